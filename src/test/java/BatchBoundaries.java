/** The edges of promises 52 to 60: batches, what other decisions would cost, and the output. */
final class BatchBoundaries {
    private BatchBoundaries() {
    }

    private static OpticalJukebox requesting(String text, int... files) {
        OpticalJukebox x = Checks.of(text);
        for (int file : files) {
            x.request(file);
        }
        return x;
    }

    /** Ten platters, each with a file of one sector; the drive is at 12. */
    private static String ten(String times) {
        StringBuilder text = new StringBuilder("slots 24;drive 12;time " + times + ";");
        for (int p = 0; p < 10; p++) {
            text.append("platter ").append(10 + p).append(" 10 0;file ").append((char) ('a' + p)).append(" 1 ").append(p)
                    .append(";close ").append(p).append(';');
        }
        return text.toString();
    }

    // ---- promise 52

    @Sentence("Returns the file of a request; NO_INDEX")
    static void promise52_noSuchRequest() {
        Checks.due("requestedFile(0) of nothing", Checks.of(Checks.THREE).requestedFile(0), Checks.NO_INDEX);
        OpticalJukebox x = requesting(Checks.THREE, 0, 1, 2, 0, 1, 2, 0, 1, 2, 0, 1, 2, 0, 1, 2, 1);
        Checks.due("requestedFile(-1)", x.requestedFile(-1), Checks.NO_INDEX);
        Checks.due("requestedFile(0)", x.requestedFile(0), 0);
        Checks.due("requestedFile(15)", x.requestedFile(15), 1);
        Checks.due("requestedFile(16)", x.requestedFile(16), Checks.NO_INDEX);
        Checks.due("requestedFile(least)", x.requestedFile(Checks.LEAST), Checks.NO_INDEX);
        Checks.due("requestedFile(most)", x.requestedFile(Checks.MOST), Checks.NO_INDEX);
        x.markBad(0, 0);
        Checks.due("requestedFile(0) of a damaged file", x.requestedFile(0), 0);
    }

    // ---- promises 53 to 56: the errors of serveBatch()

    private interface Question {
        int answer(OpticalJukebox x);
    }

    private static void anEmptyBatch(String call, Question question) {
        Checks.due(call + " of a new object", question.answer(new OpticalJukebox()), Checks.NOT_FOUND);
        Checks.due(call + " of an empty batch", question.answer(Checks.of(Checks.THREE)), Checks.NOT_FOUND);
        OpticalJukebox served = requesting(Checks.THREE, 0);
        served.serveBatch();
        Checks.due(call + " of a served batch", question.answer(served), Checks.NOT_FOUND);
    }

    private static void noDrives(String call, Question question) {
        OpticalJukebox x = requesting(Checks.NO_DRIVES, 0, 0);
        Checks.due(call + " without drives", question.answer(x), Checks.NO_DRIVE);
        x.markBad(0, 0);
        Checks.due(call + " without drives of a damaged file", question.answer(x), Checks.NO_DRIVE);
    }

    private static void notReadable(String call, Question question) {
        OpticalJukebox x = requesting(Checks.THREE, 0, 1);
        x.markBad(1, 2);
        Checks.due(call + " of a damaged file", question.answer(x), Checks.NOT_POSSIBLE);
        x.undo();
        x.write(0, 1, 0);
        Checks.due(call + " of a file in an open session", question.answer(x), Checks.NOT_POSSIBLE);
        x.closeSession(0);
        Checks.due(call + " of readable files", question.answer(x) < 0 ? 1 : 0, 0);
    }

    /** A question leaves the jukebox as it is, and so does the answer's way to it. */
    private static void changesNothing(String call, Question question) {
        OpticalJukebox x = requesting(Checks.THREE, 2, 0, 1);
        x.mount(1);
        String before = Checks.picture(x);
        question.answer(x);
        Checks.same("after " + call, Checks.picture(x), before);
        Checks.due("undo() after " + call, x.undo(), 3);
    }

    // ---- promise 53

    @Sentence({"the errors of serveBatch()", "Returns the time that serving the batch would take now"})
    static void promise53_theErrorsOfServeBatch() {
        anEmptyBatch("batchTime()", OpticalJukebox::batchTime);
        noDrives("batchTime()", OpticalJukebox::batchTime);
        notReadable("batchTime()", OpticalJukebox::batchTime);
        changesNothing("batchTime()", OpticalJukebox::batchTime);
    }

    @Sentence("Returns the time that serving the batch would take now")
    static void promise53_nothingToBring() {
        OpticalJukebox x = requesting(Checks.THREE, 0, 0);
        x.mount(0);
        Checks.due("batchTime() of what is in a drive", x.batchTime(), 2 * 2 * 4);
        x.setTimes(2, 3, 7, 0, 5);
        Checks.due("batchTime() without READ", x.batchTime(), 0);
    }

    @Sentence("Returns the time that serving the batch would take now")
    static void promise53_sixteenRequestsForTenPlatters() {
        OpticalJukebox x = requesting(ten("1 2 5 1 3"), 9, 8, 7, 6, 5, 4, 3, 2, 1, 0, 0, 1, 2, 3, 4, 5);
        int time = x.batchTime();
        Checks.due("serveBatch()", x.serveBatch(), time);
        Checks.due("clock()", x.clock(), time);
        Checks.due("exchanges()", x.exchanges(), 10);
    }

    @Sentence("Returns the time that serving the batch would take now")
    static void promise53_oneRequest() {
        OpticalJukebox x = requesting(Checks.THREE, 0);
        Checks.due("batchTime()", x.batchTime(), 15 + 2 * 4);
        Checks.due("batchExchanges()", x.batchExchanges(), 1);
        Checks.due("oneByOneTime()", x.oneByOneTime(), 15 + 2 * 4);
    }

    /** What was planned before a change is not answered after it. */
    @Sentence("Returns the time that serving the batch would take now")
    static void promise53_afterEachChange() {
        OpticalJukebox x = requesting(Checks.THREE, 2, 0, 1);
        int before = x.batchTime();
        x.setTimes(3, 3, 7, 4, 5);
        int dearer = x.batchTime();
        Checks.due("batchTime() with a dearer MOVE", dearer > before ? 1 : 0, 1);
        Checks.due("serveBatch()", x.serveBatch(), dearer);
        x.undo();
        x.undo();
        Checks.due("batchTime() after undo()", x.batchTime(), before);
        x.moveHome(1, 2);
        int nearer = x.batchTime();
        Checks.due("batchTime() with a nearer home", nearer < before ? 1 : 0, 1);
        Checks.due("leastTimeWithoutOne() is not more", x.leastTimeWithoutOne() <= nearer ? 1 : 0, 1);
        x.undo();
        Checks.due("batchTime() after undo()", x.batchTime(), before);
        Checks.loadText(x, Checks.THREE.replace("time 2 3 7 4 5;", "time 3 3 7 4 5;"));
        x.request(2);
        x.request(0);
        x.request(1);
        Checks.due("batchTime() after a load", x.batchTime(), dearer);
    }

    /** No edit lies between the load and the question, as the undone edit was made before it. */
    @Sentence("Returns the time that serving the batch would take now")
    static void promise53_afterAnUndo() {
        OpticalJukebox x = requesting(Checks.THREE, 2, 0, 1);
        int before = x.batchTime();
        x.setTimes(9, 3, 7, 4, 5);
        int dearer = x.batchTime();
        x.undo();
        Checks.due("batchTime() after undo()", x.batchTime(), before);
        Checks.due("batchExchanges() after undo()", x.batchExchanges(), 3);
        x.setTimes(9, 3, 7, 4, 5);
        Checks.due("batchTime() once more", x.batchTime(), dearer);
    }

    @Sentence("The order of these platters is the one with the least time for all movements and spin-ups")
    static void promise53_theLeastTime() {
        // the picker is at 0: 8 first costs 8 to 0 later, 0 first ends at 8
        OpticalJukebox x = requesting("slots 10;drive 5;time 1 0 0 0 0;platter 8 10 0;platter 0 10 0;file a 1 0;close 0;"
                + "file b 1 1;close 1;", 0, 1);
        // 0 to 0, 0 to 5; 5 to 0, 0 to 8, 8 to 5
        Checks.due("batchTime()", x.batchTime(), 5 + 5 + 8 + 3);
        Checks.due("batchPlatter(0)", x.batchPlatter(0), 1);
    }

    // ---- promise 54

    @Sentence({"the errors of serveBatch()", "Returns the number of platters that serving the batch would bring into a drive"})
    static void promise54_theErrorsOfServeBatch() {
        anEmptyBatch("batchExchanges()", OpticalJukebox::batchExchanges);
        noDrives("batchExchanges()", OpticalJukebox::batchExchanges);
        notReadable("batchExchanges()", OpticalJukebox::batchExchanges);
        changesNothing("batchExchanges()", OpticalJukebox::batchExchanges);
    }

    @Sentence("Returns the number of platters that serving the batch would bring into a drive")
    static void promise54_noneAndTen() {
        OpticalJukebox x = requesting(ten("1 2 5 1 3"), 3, 3);
        Checks.due("batchExchanges() of a file twice", x.batchExchanges(), 1);
        x.mount(3);
        Checks.due("batchExchanges() of what is in a drive", x.batchExchanges(), 0);
        x.request(4);
        Checks.due("batchExchanges() of another one, too", x.batchExchanges(), 1);
        Checks.due("batchExchanges() of ten", requesting(ten("1 2 5 1 3"), 0, 1, 2, 3, 4, 5, 6, 7, 8, 9).batchExchanges(), 10);
    }

    // ---- promise 55

    @Sentence({"the errors of serveBatch()", "NO_INDEX if there is no such platter (checked after these)"})
    static void promise55_theErrorsOfServeBatchComeFirst() {
        for (int place : new int[] {0, -1, 10, Checks.LEAST, Checks.MOST}) {
            anEmptyBatch("batchPlatter(" + place + ")", x -> x.batchPlatter(place));
            noDrives("batchPlatter(" + place + ")", x -> x.batchPlatter(place));
        }
        notReadable("batchPlatter(0)", x -> x.batchPlatter(0));
        OpticalJukebox x = requesting(Checks.THREE, 0);
        x.markBad(0, 0);
        Checks.due("batchPlatter(-1) of a damaged file", x.batchPlatter(-1), Checks.NOT_POSSIBLE);
        Checks.due("batchPlatter(1) of a damaged file", x.batchPlatter(1), Checks.NOT_POSSIBLE);
        changesNothing("batchPlatter(0)", y -> y.batchPlatter(0));
    }

    @Sentence("NO_INDEX if there is no such platter")
    static void promise55_noSuchPlace() {
        OpticalJukebox x = requesting(ten("0 0 0 0 0"), 9, 8, 7, 6, 5, 4, 3, 2, 1, 0);
        Checks.due("batchPlatter(-1)", x.batchPlatter(-1), Checks.NO_INDEX);
        Checks.due("batchPlatter(9)", x.batchPlatter(9), 9);
        Checks.due("batchPlatter(10)", x.batchPlatter(10), Checks.NO_INDEX);
        Checks.due("batchPlatter(least)", x.batchPlatter(Checks.LEAST), Checks.NO_INDEX);
        Checks.due("batchPlatter(most)", x.batchPlatter(Checks.MOST), Checks.NO_INDEX);
        OpticalJukebox mounted = requesting(Checks.THREE, 0);
        mounted.mount(0);
        Checks.due("batchPlatter(0) of what is in a drive", mounted.batchPlatter(0), Checks.NO_INDEX);
        OpticalJukebox two = requesting(Checks.THREE, 0, 0, 1);
        Checks.due("batchPlatter(1)", two.batchPlatter(1) < 0 ? 1 : 0, 0);
        Checks.due("batchPlatter(2) of two platters and three requests", two.batchPlatter(2), Checks.NO_INDEX);
    }

    @Sentence("of several orders it is the one whose sequence of platter numbers is lexicographically least")
    static void promise55_ordersOfTheSameTime() {
        OpticalJukebox x = requesting(ten("0 1 1 1 1"), 9, 8, 7, 6, 5, 4, 3, 2, 1, 0);
        for (int place = 0; place < 10; place++) {
            Checks.due("batchPlatter(" + place + ")", x.batchPlatter(place), place);
        }
        // each two neighbours take twice the way to the farther home, so slot 1 must not be the middle one
        OpticalJukebox y = requesting("slots 10;drive 9;time 1 0 0 0 0;platter 3 10 0;platter 1 10 0;platter 2 10 0;"
                + "file a 1 0;close 0;file b 1 1;close 1;file c 1 2;close 2;", 0, 1, 2);
        Checks.due("batchTime()", y.batchTime(), 9 + 2 * 7 + 2 * 8);
        Checks.due("batchPlatter(0)", y.batchPlatter(0), 0);
        Checks.due("batchPlatter(1)", y.batchPlatter(1), 2);
        Checks.due("batchPlatter(2)", y.batchPlatter(2), 1);
    }

    // ---- promise 56

    @Sentence({"the errors of serveBatch()", "Returns the time that reading the requested files one by one"})
    static void promise56_theErrorsOfServeBatch() {
        anEmptyBatch("oneByOneTime()", OpticalJukebox::oneByOneTime);
        noDrives("oneByOneTime()", OpticalJukebox::oneByOneTime);
        notReadable("oneByOneTime()", OpticalJukebox::oneByOneTime);
        changesNothing("oneByOneTime()", OpticalJukebox::oneByOneTime);
    }

    @Sentence("in the order of the requests, as read() does it")
    static void promise56_oneRequestAndSixteen() {
        OpticalJukebox one = requesting(Checks.THREE, 2);
        Checks.due("oneByOneTime() of one", one.oneByOneTime(), one.readTime(2));
        int[] files = {2, 0, 1, 1, 2, 0, 0, 2, 1, 0, 1, 2, 2, 1, 0, 2};
        OpticalJukebox x = requesting(Checks.THREE, files);
        int time = x.oneByOneTime();
        int sum = 0;
        for (int file : files) {
            sum += x.read(file);
        }
        Checks.due("oneByOneTime() of sixteen", time, sum);
        Checks.due("clock()", x.clock(), sum);
    }

    @Sentence("Returns the time that reading the requested files one by one")
    static void promise56_theClockHasRunBefore() {
        OpticalJukebox x = requesting(Checks.THREE, 0, 2);
        x.read(1);
        x.read(0);
        int clock = x.clock();
        int time = x.oneByOneTime();
        Checks.due("the time of reading them", x.read(0) + x.read(2), time);
        Checks.due("clock()", x.clock(), clock + time);
    }

    // ---- promise 57

    @Sentence("NOT_FOUND if the batch has fewer than two requests; NO_DRIVE")
    static void promise57_fewerThanTwo() {
        anEmptyBatch("leastTimeWithoutOne()", OpticalJukebox::leastTimeWithoutOne);
        Checks.due("leastTimeWithoutOne() of one", requesting(Checks.THREE, 0).leastTimeWithoutOne(), Checks.NOT_FOUND);
        Checks.due("leastTimeWithoutOne() of one without drives", requesting(Checks.NO_DRIVES, 0).leastTimeWithoutOne(),
                Checks.NOT_FOUND);
        OpticalJukebox x = requesting(Checks.THREE, 0);
        x.markBad(0, 0);
        Checks.due("leastTimeWithoutOne() of a damaged one", x.leastTimeWithoutOne(), Checks.NOT_FOUND);
        OpticalJukebox two = requesting(Checks.THREE, 0, 0);
        Checks.due("leastTimeWithoutOne() of two", two.leastTimeWithoutOne(), 15 + 8);
        two.dropRequest(0);
        Checks.due("leastTimeWithoutOne() of one again", two.leastTimeWithoutOne(), Checks.NOT_FOUND);
    }

    @Sentence("NO_DRIVE; NOT_POSSIBLE if a requested file is not readable any more")
    static void promise57_noDrives() {
        noDrives("leastTimeWithoutOne()", OpticalJukebox::leastTimeWithoutOne);
    }

    @Sentence("NOT_POSSIBLE if a requested file is not readable any more")
    static void promise57_notReadable() {
        notReadable("leastTimeWithoutOne()", OpticalJukebox::leastTimeWithoutOne);
        OpticalJukebox x = requesting(Checks.THREE, 0, 1, 2);
        x.markBad(2, 0);
        Checks.due("leastTimeWithoutOne(), the last is damaged", x.leastTimeWithoutOne(), Checks.NOT_POSSIBLE);
        changesNothing("leastTimeWithoutOne()", OpticalJukebox::leastTimeWithoutOne);
    }

    @Sentence("Returns the smallest time that serving the batch would take if one of its requests was dropped")
    static void promise57_eachRequestDroppedInTurn() {
        int[] files = {9, 8, 8, 6, 5, 4, 3, 2, 1, 0, 0, 9, 7, 5, 3, 1};
        OpticalJukebox x = requesting(ten("1 2 5 1 3"), files);
        int got = x.leastTimeWithoutOne();
        int least = Checks.MOST;
        for (int r = 0; r < files.length; r++) {
            x.dropRequest(r);
            least = Math.min(least, x.batchTime());
            x.undo();
        }
        Checks.due("leastTimeWithoutOne() of sixteen", got, least);
    }

    @Sentence("Returns the smallest time that serving the batch would take if one of its requests was dropped")
    static void promise57_eachPlatterRequestedOnce() {
        for (int first = 0; first < 10; first++) {
            OpticalJukebox x = Checks.of(ten("1 0 0 0 0"));
            for (int n = 0; n < 10; n++) {
                x.request((first + n) % 10);
            }
            int got = x.leastTimeWithoutOne();
            int least = Checks.MOST;
            for (int r = 0; r < 10; r++) {
                x.dropRequest(r);
                least = Math.min(least, x.batchTime());
                x.undo();
            }
            Checks.due("leastTimeWithoutOne() of ten", got, least);
        }
    }

    /** With full drives, what is dropped decides both the drive and the platters that are left. */
    @Sentence("Returns the smallest time that serving the batch would take if one of its requests was dropped")
    static void promise57_drivesAndPlattersDecide() {
        String text = "slots 24;drive 2;drive 20;time 1 0 0 0 0;" + "platter 0 10 0;platter 23 10 0;platter 5 10 0;platter 18 10 0;"
                + "platter 9 10 0;" + "file a 1 0;close 0;file b 1 1;close 1;file c 1 2;close 2;file d 1 3;close 3;file e 1 4;close 4;";
        int[][] batches = {{0, 2, 3, 4}, {2, 3, 4, 0}, {1, 2, 3, 4}, {2, 0, 3}, {3, 1, 4, 0}, {4, 3, 2, 1, 0}, {2, 2, 1, 3}};
        for (int[] files : batches) {
            for (int used = 0; used < 2; used++) {
                OpticalJukebox x = Checks.of(text);
                x.mount(0);
                x.mount(1);
                x.read(used);
                for (int file : files) {
                    x.request(file);
                }
                int got = x.leastTimeWithoutOne();
                int least = Checks.MOST;
                for (int r = 0; r < files.length; r++) {
                    x.dropRequest(r);
                    least = Math.min(least, x.serveBatch());
                    x.undo();
                    x.undo();
                }
                Checks.due("leastTimeWithoutOne()", got, least);
            }
        }
    }

    @Sentence("Returns the smallest time that serving the batch would take if one of its requests was dropped")
    static void promise57_theDroppedOneDecidesTheDrive() {
        OpticalJukebox x = Checks.of("slots 10;drive 1;drive 8;time 1 0 0 0 0;platter 0 20 2;platter 4 50 0;platter 9 30 1;"
                + "file a 2 0;close 0;file b 3 1;close 1;file c 5 2;close 2;");
        x.mount(0);
        x.mount(2);
        x.read(0);
        x.request(2);
        x.request(1);
        x.request(1);
        Checks.due("batchTime(): 8 to 1, 1 to 0, 0 to 4, 4 to 1", x.batchTime(), 15);
        Checks.due("leastTimeWithoutOne(): 8 to 9, 9 to 4, 4 to 8", x.leastTimeWithoutOne(), 10);
    }

    // ---- promise 58

    @Sentence("NO_INDEX if there is no such platter; NO_DRIVE")
    static void promise58_noSuchPlatter() {
        OpticalJukebox x = Checks.of(Checks.THREE);
        Checks.due("nearestHome(-1)", x.nearestHome(-1), Checks.NO_INDEX);
        Checks.due("nearestHome(3)", x.nearestHome(3), Checks.NO_INDEX);
        Checks.due("nearestHome(least)", x.nearestHome(Checks.LEAST), Checks.NO_INDEX);
        Checks.due("nearestHome(most)", x.nearestHome(Checks.MOST), Checks.NO_INDEX);
        Checks.due("nearestHome(2) without drives", Checks.of(Checks.NO_DRIVES).nearestHome(2), Checks.NO_INDEX);
    }

    @Sentence("NO_DRIVE")
    static void promise58_noDrives() {
        Checks.due("nearestHome(0)", Checks.of(Checks.NO_DRIVES).nearestHome(0), Checks.NO_DRIVE);
    }

    @Sentence({"of all slots that are not the home slot of another platter", "of several the lowest number"})
    static void promise58_ownHomeAndTheHomesOfOthers() {
        OpticalJukebox x = Checks.of("slots 4;drive 3;platter 3 10 0;platter 1 10 0;platter 0 10 0;platter 2 10 0;");
        Checks.due("nearestHome(0), its own", x.nearestHome(0), 3);
        Checks.due("nearestHome(1), no other is free", x.nearestHome(1), 1);
        Checks.due("nearestHome(2), no other is free", x.nearestHome(2), 0);
        Checks.due("nearestHome(3), no other is free", x.nearestHome(3), 2);
        x.mount(0);
        Checks.due("nearestHome(1), 3 is a home still", x.nearestHome(1), 1);
        OpticalJukebox y = Checks.of("slots 24;drive 0;drive 23;platter 10 10 0;");
        Checks.due("nearestHome(0): 0 and 23 are as near", y.nearestHome(0), 0);
        y = Checks.of("slots 24;drive 23;platter 0 10 0;");
        Checks.due("nearestHome(0), the last slot", y.nearestHome(0), 23);
        y = Checks.of("slots 24;drive 12;platter 12 10 0;platter 0 10 0;");
        Checks.due("nearestHome(1): 11 and 13 are as near", y.nearestHome(1), 11);
    }

    // ---- promise 59

    @Sentence("@return the number of bytes of the output")
    static void promise59_noFileAndTheLongestEntry() {
        Checks.due("writeCatalogue() of no file", new OpticalJukebox().writeCatalogue(), 0);
        Checks.due("writeCatalogue() of platters alone", Checks.of("platter 0 10 0;").writeCatalogue(), 0);
        OpticalJukebox x = Checks.of("platter 0 300 0;file a 1 0;");
        Checks.due("writeCatalogue() of the shortest entry", x.writeCatalogue(), "0:0,0,1;".length());
        x = Checks.of("platter 0 300 0;" + Checks.named('a', 18, "file # 6 0;") + "file s 92 0;file t 100 0;close 0;");
        Checks.same("the longest entry", Checks.catalogue(x).replaceAll(".*;(?=19)", "") + "\n", "19:0,200,100*;\n");
    }

    @Sentence("then an asterisk if the file is readable, then a semicolon")
    static void promise59_readableOrNot() {
        OpticalJukebox x = Checks.of("drive 0;platter 0 300 0;file a 9 0;file b 10 0;close 0;file c 100 0;file d 99 0;");
        Checks.same("writeCatalogue()", Checks.catalogue(x) + "\n", "0:0,0,9*;1:0,9,10*;2:0,21,100;3:0,121,99;\n");
        x.markBad(0, 0);
        Checks.same("writeCatalogue()", Checks.catalogue(x) + "\n", "0:0,0,9;1:0,9,10*;2:0,21,100;3:0,121,99;\n");
        x.closeSession(0);
        Checks.same("writeCatalogue()", Checks.catalogue(x) + "\n", "0:0,0,9;1:0,9,10*;2:0,21,100*;3:0,121,99*;\n");
    }

    /** Twenty files, of which each but the first ones has an entry of the greatest length that is possible together. */
    @Sentence("for each file its number, a colon, the platter, a comma, the first sector and a comma and the number of sectors")
    static void promise59_twentyFiles() {
        OpticalJukebox x = Checks.of("drive 0;" + Checks.numbered(0, 10, "platter # 300 0;"));
        StringBuilder due = new StringBuilder();
        for (int f = 0; f < 20; f++) {
            x.create(f % 2 == 0 ? 100 : 198, f / 2);
            if (f % 2 == 1) {
                x.closeSession(f / 2);
            }
            due.append(f).append(':').append(f / 2).append(f % 2 == 0 ? ",0,100*;" : ",100,198*;");
        }
        Checks.due("writeCatalogue()", x.writeCatalogue(), due.length());
        Checks.same("writeCatalogue()", Checks.catalogue(x) + "\n", due + "\n");
    }

    // ---- promise 60

    @Sentence("NO_INDEX (also before the first writeCatalogue())")
    static void promise60_beforeTheFirstOutput() {
        OpticalJukebox x = Checks.of(Checks.THREE);
        Checks.due("outputByte(0)", x.outputByte(0), Checks.NO_INDEX);
        Checks.due("outputByte(-1)", x.outputByte(-1), Checks.NO_INDEX);
        OpticalJukebox none = new OpticalJukebox();
        none.writeCatalogue();
        Checks.due("outputByte(0) of an empty output", none.outputByte(0), Checks.NO_INDEX);
    }

    @Sentence("0 to the number of bytes of the latest output minus 1")
    static void promise60_theFirstAndTheLastByte() {
        OpticalJukebox x = Checks.of(Checks.THREE);
        int length = x.writeCatalogue();
        Checks.due("outputByte(0)", x.outputByte(0), '0');
        Checks.due("outputByte of the last", x.outputByte(length - 1), ';');
        Checks.due("outputByte behind the last", x.outputByte(length), Checks.NO_INDEX);
        Checks.due("outputByte(-1)", x.outputByte(-1), Checks.NO_INDEX);
        Checks.due("outputByte(least)", x.outputByte(Checks.LEAST), Checks.NO_INDEX);
        Checks.due("outputByte(most)", x.outputByte(Checks.MOST), Checks.NO_INDEX);
    }

    @Sentence("the latest output")
    static void promise60_theLatestOutput() {
        OpticalJukebox x = Checks.of(Checks.THREE);
        int length = x.writeCatalogue();
        x.markBad(0, 0);
        Checks.due("outputByte(7) before the next output", x.outputByte(7), '*');
        Checks.due("writeCatalogue() without an asterisk", x.writeCatalogue(), length - 1);
        Checks.due("outputByte(7)", x.outputByte(7), ';');
        Checks.due("outputByte behind the shorter output", x.outputByte(length - 1), Checks.NO_INDEX);
        x.load(0);
        Checks.due("outputByte(0) after a load", x.outputByte(0), '0');
        x.writeCatalogue();
        Checks.due("outputByte(0) of an empty output", x.outputByte(0), Checks.NO_INDEX);
    }
}
