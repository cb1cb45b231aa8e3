import java.util.List;

/** For each promise of the document: ordinary inputs, the edges that it names, and wrong inputs. */
public final class PromisesTest {
    private static final int NO_INDEX = -1000001;
    private static final int BAD_VALUE = -1000002;
    private static final int FULL = -1000003;
    private static final int UNCHANGED = -1000004;
    private static final int NOT_FOUND = -1000005;
    private static final int BAD_TEXT = -1000006;
    private static final int NO_DRIVE = -1000007;
    private static final int NOT_POSSIBLE = -1000008;
    private static final int LEAST = Integer.MIN_VALUE;
    private static final int MOST = Integer.MAX_VALUE;

    /** Two drives, three platters, each with a file in a closed session. */
    private static final String MECHANICS = "slots 10;drive 1;drive 8;time 2 3 7 4 5;"
            + "platter 0 20 2;platter 4 50 0;platter 9 30 1;"
            + "file a 2 0;close 0;file b 3 1;close 1;file c 5 2;close 2;";

    /** Bad sectors before and after the writing, a stale version's platter, an open session. */
    private static final String FILES = "drive 3;platter 2 40 3;platter 6 10 0;platter 8 300 9;"
            + "bad 0 1;bad 0 2;bad 0 9;file a 4 0;file b 2 0;close 0;file c 5 0;"
            + "bad 1 7;file d 7 1;close 1;";

    private static final int PROMISES = 60;
    private static final int[] CHECKS = new int[PROMISES + 1];
    private static int wrong;

    private static void due(int promise, String call, int got, int want) {
        CHECKS[promise]++;
        if (got != want) {
            wrong++;
            System.out.println("promise " + promise + ": " + call + " answered " + got + ", due is " + want);
        }
    }

    private static void feedText(OpticalJukebox x, String text) {
        for (int at = 0; at < text.length(); at += 20) {
            int[] five = new int[5];
            for (int i = 0; i < 20; i++) {
                int sign = at + i < text.length() ? text.charAt(at + i) : '?';
                five[i / 4] = five[i / 4] << 8 | sign;
            }
            x.feed(five[0], five[1], five[2], five[3], five[4]);
        }
    }

    private static int loadText(OpticalJukebox x, String text) {
        feedText(x, text);
        return x.load(text.length());
    }

    private static OpticalJukebox of(String text) {
        OpticalJukebox x = new OpticalJukebox();
        int files = loadText(x, text);
        if (files < 0) {
            wrong++;
            System.out.println("not legal, kind " + x.errorKind() + " at " + x.errorPosition() + ": " + text);
        }
        return x;
    }

    private static String repeat(String what, int times) {
        return what.repeat(times);
    }

    private static String catalogue(OpticalJukebox x) {
        int length = x.writeCatalogue();
        StringBuilder told = new StringBuilder();
        for (int i = 0; i < length; i++) {
            told.append((char) x.outputByte(i));
        }
        return told.toString();
    }

    public static void main(String[] args) {
        newObject();
        feed();
        load();
        errors();
        places();
        clockAndCounts();
        chosenDrive();
        mountTimes();
        sectorsAndSessions();
        shares();
        cleanRun();
        bestPlatter();
        files();
        states();
        mountAndEject();
        read();
        write();
        create();
        closeSession();
        markBad();
        moveHome();
        setTimes();
        requests();
        serveBatch();
        undo();
        batchQuestions();
        orderOfTheBatch();
        oneByOne();
        withoutOne();
        nearestHome();
        output();
        for (int promise = 1; promise <= PROMISES; promise++) {
            if (CHECKS[promise] == 0) {
                wrong++;
                System.out.println("promise " + promise + " has no check");
            }
        }
        System.out.println(wrong == 0 ? "all promises hold" : wrong + " checks failed");
        if (wrong != 0) {
            System.exit(1);
        }
    }

    private static void newObject() {
        OpticalJukebox x = new OpticalJukebox();
        due(1, "clock()", x.clock(), 0);
        due(1, "pickerPosition()", x.pickerPosition(), 0);
        due(1, "platterInSlot(11)", x.platterInSlot(11), NOT_FOUND);
        due(1, "platterInSlot(12)", x.platterInSlot(12), NO_INDEX);
        due(1, "platterInDrive(0)", x.platterInDrive(0), NO_INDEX);
        due(1, "homeSlot(0)", x.homeSlot(0), NO_INDEX);
        due(1, "versionCount(0)", x.versionCount(0), NO_INDEX);
        due(1, "setTimes(1, 2, 5, 1, 3)", x.setTimes(1, 2, 5, 1, 3), UNCHANGED);
        due(1, "load(1)", x.load(1), BAD_VALUE);
        due(1, "load(0)", x.load(0), 0);
    }

    private static void feed() {
        OpticalJukebox x = new OpticalJukebox();
        // "slot" "s 24" ";dri" "ve 2" "3;??": each parameter has a share in the text
        due(2, "feed", x.feed(0x736c6f74, 0x73203234, 0x3b647269, 0x76652032, 0x333b3f3f), 20);
        due(2, "load(18)", x.load(18), 0);
        due(2, "platterInSlot(23)", x.platterInSlot(23), NOT_FOUND);
        due(2, "platterInDrive(0)", x.platterInDrive(0), NOT_FOUND);
        for (int n = 1; n <= 45; n++) {
            due(2, "feed", x.feed(0x20202020, 0x0a0a0a0a, 0x20202020, 0x20202020, 0x20202020), 20 * n);
        }
        due(2, "feed when full", x.feed(-1, -1, -1, -1, -1), FULL);
        due(2, "load(901)", x.load(901), BAD_VALUE);
        due(2, "load(900)", x.load(900), 0);
        due(2, "feed after load", x.feed(-1, 0, 0, 0, 0), 20);
        due(2, "load of byte 255", x.load(1), BAD_TEXT);
        due(2, "errorKind()", x.errorKind(), 1);
    }

    private static void load() {
        OpticalJukebox x = new OpticalJukebox();
        due(3, "load", loadText(x, MECHANICS), 3);
        due(3, "mount(1)", x.mount(1), 27);
        due(3, "request(0)", x.request(0), 1);
        due(3, "load(1) of nothing", x.load(1), BAD_VALUE);
        feedText(x, "slots 4;");
        due(3, "load(21)", x.load(21), BAD_VALUE);
        due(3, "load(-1)", x.load(-1), BAD_VALUE);
        due(3, "load(least)", x.load(LEAST), BAD_VALUE);
        due(3, "load(9)", x.load(9), BAD_TEXT);
        due(3, "clock() of the jukebox that stays", x.clock(), 27);
        due(3, "requestedFile(0)", x.requestedFile(0), 0);
        due(3, "load(1) of the emptied buffer", x.load(1), BAD_VALUE);
        due(3, "undo() after a text that is not legal", x.undo(), 1);
        feedText(x, "slots 4;");
        due(3, "load(8)", x.load(8), 0);
        due(3, "clock()", x.clock(), 0);
        due(3, "pickerPosition()", x.pickerPosition(), 0);
        due(3, "requestedFile(0)", x.requestedFile(0), NO_INDEX);
        due(3, "platterInSlot(4)", x.platterInSlot(4), NO_INDEX);
        due(3, "undo() after a load", x.undo(), NOT_FOUND);
        due(3, "load", loadText(x, " \n slots10;drive9;\nplatter 00009 10 0 ;file a1 0;close 0; \n"), 1);
        due(3, "homeSlot(0)", x.homeSlot(0), 9);
        due(3, "fileState(0)", x.fileState(0), 0);
        due(3, "load of two time statements", loadText(x, "time 9 9 9 9 9;time 0 99 1 2 3;"), 0);
        due(3, "setTimes of the last", x.setTimes(0, 99, 1, 2, 3), UNCHANGED);
        String longest = "platter 0 300 9;bad 0 299;file abcdefgh 300 0;";
        due(3, "load of 900 bytes", loadText(x, longest + repeat(" ", 900 - longest.length())), 1);
        due(3, "remappedSectors(0)", x.remappedSectors(0), 1);
        due(3, "load of names that are nearly the same", loadText(x, "platter 0 300 0;file a 1 0;file aa 1 0;"
                + "file aaa 1 0;file ab 1 0;file ba 1 0;file z 1 0;file za 1 0;file az 1 0;file aaaaaaaa 1 0;"
                + "file aaaaaaab 1 0;file baaaaaaa 1 0;file files 1 0;file clos 1 0;"), 13);
        String eightSessions = "platter 0 300 0;" + eight("file # 1 0;close 0;");
        due(3, "load of 8 sessions", loadText(x, eightSessions), 8);
        due(3, "load of a 9th", loadText(x, eightSessions + "file z 1 0;"), BAD_TEXT);
        due(3, "its kind", x.errorKind(), 6);
        due(3, "sessionCount(0) of the jukebox that stays", x.sessionCount(0), 8);
    }

    private static String eight(String statement) {
        StringBuilder all = new StringBuilder();
        for (char name = 'a'; name < 'i'; name++) {
            all.append(statement.replace('#', name));
        }
        return all.toString();
    }

    private static void errors() {
        OpticalJukebox x = new OpticalJukebox();
        due(4, "errorKind() of a new object", x.errorKind(), 0);
        due(5, "errorPosition() of a new object", x.errorPosition(), NOT_FOUND);
        illegalTokens(x);
        otherTokens(x);
        ranges(x);
        limits(x);
        error(x, "platter 1 10 0;file a 11 0;", 6, 25);
        error(x, "platter 1 10 0;bad 0 9;file a 9 0;file b 1 0;", 6, 43);
        error(x, "platter 1 10 0;close 0;", 6, 21);
        error(x, "platter 1 10 0;file a 1 0;close 0;close 0;", 6, 40);
        due(4, "load(5) of nothing", x.load(5), BAD_VALUE);
        due(4, "errorKind() after BAD_VALUE", x.errorKind(), 6);
        due(5, "errorPosition() after BAD_VALUE", x.errorPosition(), 40);
        due(4, "load(0)", x.load(0), 0);
        due(4, "errorKind() after a legal text", x.errorKind(), 0);
        due(5, "errorPosition() after a legal text", x.errorPosition(), NOT_FOUND);
    }

    private static void error(OpticalJukebox x, String text, int kind, int position) {
        due(3, "load of " + text, loadText(x, text), BAD_TEXT);
        due(4, "errorKind() of " + text, x.errorKind(), kind);
        due(5, "errorPosition() of " + text, x.errorPosition(), position);
    }

    private static void illegalTokens(OpticalJukebox x) {
        error(x, "drivedrive 1;", 1, 0);
        error(x, "  Drive 1;", 1, 2);
        error(x, "drive 123456;", 1, 6);
        error(x, "drive\t1;", 1, 5);
        error(x, "drive -1;", 1, 6);
        error(x, "drive 1,", 1, 7);
        error(x, "drive 1;" + (char) 0, 1, 8);
        error(x, "drive 1;" + (char) 228, 1, 8);
        error(x, "file abcdefghi 1 0;", 1, 5);
        error(x, "platter 0 10 0;file a 1 0:", 1, 25);
        error(x, "\r", 1, 0);
    }

    private static void otherTokens(OpticalJukebox x) {
        error(x, ";", 2, 0);
        error(x, "7;", 2, 0);
        error(x, "slot 7;", 2, 0);
        error(x, "drives 7;", 2, 0);
        error(x, "abcdefgh", 2, 0);
        error(x, "drive;", 2, 5);
        error(x, "drive 1 2;", 2, 8);
        error(x, "drive 1 drive 2;", 2, 8);
        error(x, "drive", 2, 5);
        error(x, "drive 1 \n", 2, 9);
        error(x, "time 1 2 3 4;", 2, 12);
        error(x, "time 1 2 3 4 5 6;", 2, 15);
        error(x, "drive 1;;", 2, 8);
        error(x, "platter 0 10 0;file 5 1 0;", 2, 20);
        for (String word : new String[] {"slots", "drive", "time", "platter", "bad", "file", "close"}) {
            error(x, "platter 0 10 0;file " + word + " 1 0;", 2, 20);
        }
        error(x, "platter 0 10 0;file", 2, 19);
    }

    private static void ranges(OpticalJukebox x) {
        error(x, "slots 3;", 3, 6);
        error(x, "slots 25;", 3, 6);
        error(x, "drive 12;", 3, 6);
        error(x, "slots 5;drive 5;", 3, 14);
        error(x, "time 100 0 0 0 0;", 3, 5);
        error(x, "time 0 0 0 0 99999;", 3, 13);
        error(x, "platter 12 10 0;", 3, 8);
        error(x, "platter 0 9 0;", 3, 10);
        error(x, "platter 0 301 0;", 3, 10);
        error(x, "platter 0 300 10;", 3, 14);
        error(x, "bad 0 0;", 3, 4);
        error(x, "platter 0 10 0;bad 1 0;", 3, 19);
        error(x, "platter 0 10 0;bad 0 10;", 3, 21);
        error(x, "file a 1 0;", 3, 9);
        error(x, "platter 0 10 0;file a 0 0;", 3, 22);
        error(x, "platter 0 10 0;file a 301 0;", 3, 22);
        error(x, "platter 0 10 0;file a 300 1;", 3, 26);
        error(x, "close 0;", 3, 6);
    }

    private static void limits(OpticalJukebox x) {
        error(x, "platter 3 10 0;platter 3 10 0;", 4, 23);
        error(x, "platter 0 10 0;bad 0 3;bad 0 3;", 4, 29);
        error(x, "platter 0 10 0;file a 1 0;file a 1 0;", 4, 31);
        error(x, "platter 0 10 0;file abcdefgh 1 0;file abcdefg 1 0;file abcdefgh 1 0;", 4, 55);
        error(x, "slots 4;slots 4;", 5, 8);
        error(x, "time 1 1 1 1 1;slots 4;", 5, 15);
        String drives = repeat("drive 0;", 4);
        due(3, "load of 4 drives", loadText(x, drives), 0);
        error(x, drives + "drive x", 5, 32);
        StringBuilder platters = new StringBuilder();
        for (int p = 0; p < 10; p++) {
            platters.append("platter ").append(p).append(" 30 0;");
        }
        due(3, "load of 10 platters", loadText(x, platters.toString()), 0);
        error(x, platters + "platter 0", 5, platters.length());
        StringBuilder bad = new StringBuilder("platter 0 30 0;");
        for (int s = 10; s < 30; s++) {
            bad.append("bad 0 ").append(s).append(";");
        }
        due(3, "load of 20 bad sectors", loadText(x, bad.toString()), 0);
        error(x, bad + "bad 0 10;", 5, bad.length());
        StringBuilder files = new StringBuilder("platter 0 300 0;");
        for (char name = 'a'; name < 'u'; name++) {
            files.append("file ").append(name).append(" 1 0;");
        }
        due(3, "load of 20 files", loadText(x, files.toString()), 20);
        error(x, files + "file a 1 0;", 5, files.length());
    }

    private static void places() {
        OpticalJukebox x = of(MECHANICS);
        due(6, "homeSlot(0)", x.homeSlot(0), 0);
        due(6, "homeSlot(2)", x.homeSlot(2), 9);
        due(6, "homeSlot(3)", x.homeSlot(3), NO_INDEX);
        due(6, "homeSlot(-1)", x.homeSlot(-1), NO_INDEX);
        due(6, "homeSlot(most)", x.homeSlot(MOST), NO_INDEX);
        due(7, "platterInSlot(9)", x.platterInSlot(9), 2);
        due(7, "platterInSlot(1)", x.platterInSlot(1), NOT_FOUND);
        due(7, "platterInSlot(10)", x.platterInSlot(10), NO_INDEX);
        due(7, "platterInSlot(-1)", x.platterInSlot(-1), NO_INDEX);
        due(8, "driveOf(2)", x.driveOf(2), NOT_FOUND);
        due(8, "driveOf(3)", x.driveOf(3), NO_INDEX);
        due(8, "driveOf(least)", x.driveOf(LEAST), NO_INDEX);
        due(9, "platterInDrive(1)", x.platterInDrive(1), NOT_FOUND);
        due(9, "platterInDrive(2)", x.platterInDrive(2), NO_INDEX);
        due(9, "platterInDrive(-1)", x.platterInDrive(-1), NO_INDEX);
        x.mount(2);
        x.mount(1);
        due(6, "homeSlot(2) in a drive", x.homeSlot(2), 9);
        due(7, "platterInSlot(9) of a platter in a drive", x.platterInSlot(9), NOT_FOUND);
        due(7, "platterInSlot(0)", x.platterInSlot(0), 0);
        due(8, "driveOf(2)", x.driveOf(2), 0);
        due(8, "driveOf(1)", x.driveOf(1), 1);
        due(9, "platterInDrive(0)", x.platterInDrive(0), 2);
        due(9, "platterInDrive(1)", x.platterInDrive(1), 1);
    }

    private static void clockAndCounts() {
        OpticalJukebox x = of(MECHANICS);
        due(10, "pickerPosition()", x.pickerPosition(), 0);
        due(11, "clock()", x.clock(), 0);
        due(12, "exchanges()", x.exchanges(), 0);
        due(13, "travel()", x.travel(), 0);
        x.mount(0);
        counts(x, 1, 15, 1, 1);
        x.mount(1);
        counts(x, 8, 42, 2, 8);
        x.mount(0);
        counts(x, 8, 42, 2, 8);
        x.eject(1);
        counts(x, 4, 56, 2, 12);
        x.mount(2);
        // 4 to 9, 9 to 8
        counts(x, 8, 56 + 12 + 13, 3, 18);
        x.mount(1);
        // drive 0 is the older one: 8 to 1, 1 to 0, 0 to 4, 4 to 1
        counts(x, 1, 81 + 30 + 19, 4, 33);
    }

    private static void counts(OpticalJukebox x, int picker, int clock, int exchanges, int travel) {
        due(10, "pickerPosition()", x.pickerPosition(), picker);
        due(11, "clock()", x.clock(), clock);
        due(12, "exchanges()", x.exchanges(), exchanges);
        due(13, "travel()", x.travel(), travel);
    }

    private static void chosenDrive() {
        OpticalJukebox none = of("platter 0 10 0;");
        due(14, "chosenDrive(0) without drives", none.chosenDrive(0), NO_DRIVE);
        due(14, "chosenDrive(1) without drives", none.chosenDrive(1), NO_INDEX);
        OpticalJukebox x = of(MECHANICS);
        due(14, "chosenDrive(2)", x.chosenDrive(2), 0);
        due(14, "chosenDrive(3)", x.chosenDrive(3), NO_INDEX);
        due(14, "chosenDrive(-1)", x.chosenDrive(-1), NO_INDEX);
        x.mount(0);
        due(14, "chosenDrive(0) in a drive", x.chosenDrive(0), 0);
        due(14, "chosenDrive(2), one is empty", x.chosenDrive(2), 1);
        x.mount(1);
        due(14, "chosenDrive(2), the older one", x.chosenDrive(2), 0);
        x.read(0);
        due(14, "chosenDrive(2) after reading in 0", x.chosenDrive(2), 1);
        x.write(1, 1, 1);
        due(14, "chosenDrive(2) after writing in 1", x.chosenDrive(2), 0);
        x.mount(0);
        due(14, "chosenDrive(2) after mounting what is in 0", x.chosenDrive(2), 1);
        x.closeSession(1);
        due(14, "chosenDrive(2) after closing in 1", x.chosenDrive(2), 0);
        x.create(1, 0);
        due(14, "chosenDrive(2) after creating in 0", x.chosenDrive(2), 1);
        x.eject(0);
        due(14, "chosenDrive(2), the empty one though newer", x.chosenDrive(2), 0);
    }

    private static void mountTimes() {
        OpticalJukebox none = of("platter 0 10 0;");
        due(15, "mountTime(0) without drives", none.mountTime(0), NO_DRIVE);
        due(15, "mountTime(-1) without drives", none.mountTime(-1), NO_INDEX);
        due(16, "mountTimeIn(0, 0) without drives", none.mountTimeIn(0, 0), NO_INDEX);
        OpticalJukebox x = of(MECHANICS);
        due(15, "mountTime(0)", x.mountTime(0), 15);
        due(15, "mountTime(1)", x.mountTime(1), 27);
        due(15, "mountTime(2)", x.mountTime(2), 47);
        due(15, "mountTime(3)", x.mountTime(3), NO_INDEX);
        due(16, "mountTimeIn(0, 1)", x.mountTimeIn(0, 1), 29);
        due(16, "mountTimeIn(2, 1)", x.mountTimeIn(2, 1), 33);
        due(16, "mountTimeIn(2, 2)", x.mountTimeIn(2, 2), NO_INDEX);
        due(16, "mountTimeIn(3, 0)", x.mountTimeIn(3, 0), NO_INDEX);
        due(16, "mountTimeIn(0, -1)", x.mountTimeIn(0, -1), NO_INDEX);
        x.mount(0);
        x.mount(1);
        due(15, "mountTime(0) in a drive", x.mountTime(0), 0);
        due(15, "mountTime(2) with an exchange", x.mountTime(2), 69);
        due(16, "mountTimeIn(2, 0)", x.mountTimeIn(2, 0), 69);
        due(16, "mountTimeIn(2, 1)", x.mountTimeIn(2, 1), 39);
        due(16, "mountTimeIn(0, 0) where it is", x.mountTimeIn(0, 0), 0);
        due(16, "mountTimeIn(0, 1) in the other drive", x.mountTimeIn(0, 1), NOT_FOUND);
        due(15, "clock() is not changed by questions", x.clock(), 42);
    }

    private static void sectorsAndSessions() {
        OpticalJukebox x = of(FILES);
        due(17, "freeSectors(0)", x.freeSectors(0), 40 - 13);
        due(17, "freeSectors(1) with a short lead-out", x.freeSectors(1), 1);
        due(17, "freeSectors(2)", x.freeSectors(2), 300);
        due(17, "freeSectors(3)", x.freeSectors(3), NO_INDEX);
        due(18, "sessionCount(0)", x.sessionCount(0), 2);
        due(18, "sessionCount(2)", x.sessionCount(2), 0);
        due(18, "sessionCount(-1)", x.sessionCount(-1), NO_INDEX);
        due(19, "hasOpenSession(0)", x.hasOpenSession(0), 1);
        due(19, "hasOpenSession(1)", x.hasOpenSession(1), 0);
        due(19, "hasOpenSession(2)", x.hasOpenSession(2), 0);
        due(19, "hasOpenSession(3)", x.hasOpenSession(3), NO_INDEX);
        due(20, "sessionStart(0, 0)", x.sessionStart(0, 0), 0);
        due(20, "sessionStart(0, 1)", x.sessionStart(0, 1), 8);
        due(20, "sessionStart(0, 2)", x.sessionStart(0, 2), NO_INDEX);
        due(20, "sessionStart(0, -1)", x.sessionStart(0, -1), NO_INDEX);
        due(20, "sessionStart(2, 0)", x.sessionStart(2, 0), NO_INDEX);
        due(20, "sessionStart(3, 0)", x.sessionStart(3, 0), NO_INDEX);
        due(21, "sessionSize(0, 0)", x.sessionSize(0, 0), 8);
        due(21, "sessionSize(0, 1)", x.sessionSize(0, 1), 5);
        due(21, "sessionSize(1, 0)", x.sessionSize(1, 0), 9);
        due(21, "sessionSize(1, 1)", x.sessionSize(1, 1), NO_INDEX);
        due(21, "sessionSize(-1, 0)", x.sessionSize(-1, 0), NO_INDEX);
        due(22, "sparesLeft(0)", x.sparesLeft(0), 0);
        due(22, "sparesLeft(1)", x.sparesLeft(1), 0);
        due(22, "sparesLeft(2)", x.sparesLeft(2), 9);
        due(22, "sparesLeft(3)", x.sparesLeft(3), NO_INDEX);
        sectorKinds(x);
    }

    private static void sectorKinds(OpticalJukebox x) {
        due(23, "staleSectors(0)", x.staleSectors(0), 0);
        due(23, "staleSectors(3)", x.staleSectors(3), NO_INDEX);
        int[] kinds = {1, 11, 11, 1, 1, 1, 3, 3, 1, 11, 1, 1, 1, 0};
        for (int s = 0; s < kinds.length; s++) {
            due(24, "sectorKind(0, " + s + ")", x.sectorKind(0, s), kinds[s]);
        }
        due(24, "sectorKind(1, 7) of a bad lead-out", x.sectorKind(1, 7), 13);
        due(24, "sectorKind(1, 9)", x.sectorKind(1, 9), 0);
        due(24, "sectorKind(1, 10)", x.sectorKind(1, 10), NO_INDEX);
        due(24, "sectorKind(0, -1)", x.sectorKind(0, -1), NO_INDEX);
        due(24, "sectorKind(3, 0)", x.sectorKind(3, 0), NO_INDEX);
        due(24, "sectorKind(2, 299)", x.sectorKind(2, 299), 0);
        due(24, "sectorKind(2, 300)", x.sectorKind(2, 300), NO_INDEX);
        x.markBad(2, 299);
        due(24, "sectorKind(2, 299) when bad", x.sectorKind(2, 299), 10);
        x.write(0, 3, 2);
        x.write(0, 1, 2);
        x.write(1, 1, 2);
        due(23, "staleSectors(0) after writing elsewhere", x.staleSectors(0), 6);
        due(23, "staleSectors(2)", x.staleSectors(2), 3);
        due(24, "sectorKind(0, 1) of an old version", x.sectorKind(0, 1), 12);
        due(24, "sectorKind(0, 4) of an old version", x.sectorKind(0, 4), 2);
        due(24, "sectorKind(2, 2)", x.sectorKind(2, 2), 2);
        due(24, "sectorKind(2, 3)", x.sectorKind(2, 3), 1);
        due(24, "sectorKind(0, 8)", x.sectorKind(0, 8), 1);
    }

    private static void shares() {
        OpticalJukebox x = new OpticalJukebox();
        due(25, "fillBits(0) without platters", x.fillBits(0), NO_INDEX);
        for (int capacity = 10; capacity <= 300; capacity++) {
            loadText(x, "platter 0 " + capacity + " 0;drive 0;platter 1 300 9;file a 1 1;");
            due(25, "fillBits(0)", x.fillBits(0), 0);
            for (int step = 0; step < 7; step++) {
                x.write(0, 1 + (capacity * 3 + step * 17) % 41, 0);
                int end = capacity - x.freeSectors(0);
                due(25, "fillBits of " + end + "/" + capacity, x.fillBits(0),
                        Float.floatToIntBits((float) end / (float) capacity));
            }
        }
        x = of("drive 0;platter 0 300 0;file a 299 0;platter 1 10 0;file b 10 1;");
        due(25, "fillBits(0)", x.fillBits(0), Float.floatToIntBits(299f / 300f));
        due(25, "fillBits(1)", x.fillBits(1), 0x3f800000);
        due(25, "fillBits(2)", x.fillBits(2), NO_INDEX);
        due(25, "fillBits(-1)", x.fillBits(-1), NO_INDEX);
    }

    private static void cleanRun() {
        OpticalJukebox x = of("drive 0;platter 0 30 9;bad 0 0;bad 0 12;bad 0 20;platter 1 10 0;file a 10 1;");
        due(26, "cleanRun(0): 1 to 11", x.cleanRun(0), 11);
        x.write(0, 5, 0);
        due(26, "cleanRun(0): 21 to 29", x.cleanRun(0), 9);
        x.write(0, 19, 0);
        due(26, "cleanRun(0): 24 to 29", x.cleanRun(0), 6);
        x.markBad(0, 29);
        due(26, "cleanRun(0): 24 to 28", x.cleanRun(0), 5);
        due(26, "cleanRun(1) of a full platter", x.cleanRun(1), 0);
        due(26, "cleanRun(2)", x.cleanRun(2), NO_INDEX);
        due(26, "cleanRun(-1)", x.cleanRun(-1), NO_INDEX);
    }

    private static void bestPlatter() {
        OpticalJukebox none = of("platter 0 10 0;");
        due(27, "bestPlatter(1) without drives", none.bestPlatter(1), NO_DRIVE);
        due(27, "bestPlatter(0) without drives", none.bestPlatter(0), BAD_VALUE);
        OpticalJukebox x = of("drive 5;platter 9 30 0;platter 1 20 0;platter 2 20 0;platter 3 19 0;platter 7 300 0;"
                + "bad 3 0;");
        // platters 1, 2 and 3 are on the picker's way: 16 positions less than the way over 9
        due(27, "bestPlatter(1): 3 has a bad sector and no spare", x.bestPlatter(1), 1);
        due(27, "bestPlatter(20)", x.bestPlatter(20), 1);
        due(27, "bestPlatter(21)", x.bestPlatter(21), 4);
        due(27, "bestPlatter(300)", x.bestPlatter(300), 4);
        due(27, "bestPlatter(301)", x.bestPlatter(301), BAD_VALUE);
        due(27, "bestPlatter(-1)", x.bestPlatter(-1), BAD_VALUE);
        x.create(1, 2);
        due(27, "bestPlatter(1): 2 is in the drive", x.bestPlatter(1), 2);
        x.eject(0);
        due(27, "bestPlatter(20) from slot 2", x.bestPlatter(20), 1);
        due(27, "bestPlatter(19) from slot 2", x.bestPlatter(19), 2);
        x.setTimes(0, 2, 5, 1, 3);
        due(27, "bestPlatter(19): the fewest free sectors", x.bestPlatter(19), 2);
        due(27, "bestPlatter(20): the lowest of the same", x.bestPlatter(20), 1);
        x.create(300, 4);
        due(27, "bestPlatter(31) of no platter", x.bestPlatter(31), NOT_FOUND);
        OpticalJukebox full = of("drive 0;platter 0 300 0;" + eight("file # 1 0;close 0;"));
        due(27, "bestPlatter(1) after 8 sessions", full.bestPlatter(1), NOT_FOUND);
    }

    private static void files() {
        OpticalJukebox x = of(FILES);
        due(28, "versionCount(0)", x.versionCount(0), 1);
        due(29, "filePlatter(0)", x.filePlatter(0), 0);
        due(29, "filePlatter(3)", x.filePlatter(3), 1);
        due(30, "fileStart(0)", x.fileStart(0), 0);
        due(30, "fileStart(1)", x.fileStart(1), 4);
        due(30, "fileStart(2) behind the lead-out", x.fileStart(2), 8);
        due(31, "fileSize(0)", x.fileSize(0), 4);
        due(31, "fileSize(3)", x.fileSize(3), 7);
        due(32, "fileSession(1)", x.fileSession(1), 0);
        due(32, "fileSession(2)", x.fileSession(2), 1);
        due(33, "remappedSectors(0)", x.remappedSectors(0), 2);
        due(33, "remappedSectors(1)", x.remappedSectors(1), 0);
        due(33, "remappedSectors(2)", x.remappedSectors(2), 1);
        x.markBad(0, 3);
        due(33, "remappedSectors(0) after damage", x.remappedSectors(0), 2);
        x.write(0, 6, 2);
        x.write(0, 7, 2);
        due(28, "versionCount(0) of three", x.versionCount(0), 3);
        due(28, "versionCount(1)", x.versionCount(1), 1);
        due(29, "filePlatter(0) of the current", x.filePlatter(0), 2);
        due(30, "fileStart(0) of the current", x.fileStart(0), 6);
        due(31, "fileSize(0) of the current", x.fileSize(0), 7);
        due(32, "fileSession(0) of the current", x.fileSession(0), 0);
        due(33, "remappedSectors(0) of the current", x.remappedSectors(0), 0);
        for (int f : new int[] {-1, 4, 20, LEAST, MOST}) {
            due(28, "versionCount(" + f + ")", x.versionCount(f), NO_INDEX);
            due(29, "filePlatter(" + f + ")", x.filePlatter(f), NO_INDEX);
            due(30, "fileStart(" + f + ")", x.fileStart(f), NO_INDEX);
            due(31, "fileSize(" + f + ")", x.fileSize(f), NO_INDEX);
            due(32, "fileSession(" + f + ")", x.fileSession(f), NO_INDEX);
            due(33, "remappedSectors(" + f + ")", x.remappedSectors(f), NO_INDEX);
            due(34, "fileState(" + f + ")", x.fileState(f), NO_INDEX);
            due(35, "readTime(" + f + ")", x.readTime(f), NO_INDEX);
            due(36, "lastGoodVersion(" + f + ")", x.lastGoodVersion(f), NO_INDEX);
        }
    }

    private static void states() {
        OpticalJukebox x = of(FILES);
        due(34, "fileState(0)", x.fileState(0), 0);
        due(34, "fileState(2) in an open session", x.fileState(2), 2);
        due(34, "fileState(3)", x.fileState(3), 0);
        // 0 to 2, 2 to 3, two grips, the spin-up, 4 sectors and 2 remapped ones
        due(35, "readTime(0)", x.readTime(0), 3 + 4 + 5 + 6);
        due(35, "readTime(2) in an open session", x.readTime(2), NOT_POSSIBLE);
        x.mount(0);
        due(35, "readTime(0) in the drive", x.readTime(0), 6);
        due(36, "lastGoodVersion(0)", x.lastGoodVersion(0), 0);
        due(36, "lastGoodVersion(2)", x.lastGoodVersion(2), NOT_FOUND);
        x.write(0, 1, 2);
        due(36, "lastGoodVersion(0) before the session is closed", x.lastGoodVersion(0), 0);
        x.closeSession(2);
        due(36, "lastGoodVersion(0) in a closed session", x.lastGoodVersion(0), 1);
        x.write(0, 1, 2);
        x.markBad(2, 3);
        due(34, "fileState(0) damaged in an open session", x.fileState(0), 1);
        due(36, "lastGoodVersion(0) of three", x.lastGoodVersion(0), 1);
        x.closeSession(2);
        due(36, "lastGoodVersion(0) of a damaged one", x.lastGoodVersion(0), 1);
        due(34, "fileState(0) damaged", x.fileState(0), 1);
        due(35, "readTime(0) damaged", x.readTime(0), NOT_POSSIBLE);
        x.markBad(2, 0);
        due(36, "lastGoodVersion(0) of two damaged ones", x.lastGoodVersion(0), 0);
        x.markBad(0, 0);
        due(36, "lastGoodVersion(0), all damaged", x.lastGoodVersion(0), NOT_FOUND);
        OpticalJukebox y = of("platter 0 20 0;file a 3 0;file b 3 0;bad 0 4;close 0;bad 0 6;");
        due(34, "fileState(0) beside a bad sector", y.fileState(0), 0);
        due(34, "fileState(1) with a bad sector after it was written", y.fileState(1), 1);
        due(35, "readTime(0) without drives", y.readTime(0), NO_DRIVE);
        due(35, "readTime(1) without drives", y.readTime(1), NO_DRIVE);
        owners();
    }

    private static void owners() {
        OpticalJukebox x = of(FILES);
        x.write(1, 2, 2);
        due(37, "fileOfSector(0, 3)", x.fileOfSector(0, 3), 0);
        due(37, "fileOfSector(0, 4) of an old version", x.fileOfSector(0, 4), 1);
        due(37, "fileOfSector(0, 6) of a lead-out", x.fileOfSector(0, 6), NOT_FOUND);
        due(37, "fileOfSector(0, 8)", x.fileOfSector(0, 8), 2);
        due(37, "fileOfSector(0, 13) unused", x.fileOfSector(0, 13), NOT_FOUND);
        due(37, "fileOfSector(2, 1)", x.fileOfSector(2, 1), 1);
        due(37, "fileOfSector(0, 40)", x.fileOfSector(0, 40), NO_INDEX);
        due(37, "fileOfSector(0, -1)", x.fileOfSector(0, -1), NO_INDEX);
        due(37, "fileOfSector(3, 0)", x.fileOfSector(3, 0), NO_INDEX);
        due(38, "filesOn(0)", x.filesOn(0), 2);
        due(38, "filesOn(1)", x.filesOn(1), 1);
        due(38, "filesOn(2)", x.filesOn(2), 1);
        due(38, "filesOn(3)", x.filesOn(3), NO_INDEX);
        due(38, "filesOn(-1)", x.filesOn(-1), NO_INDEX);
    }

    private static void mountAndEject() {
        OpticalJukebox none = of("platter 0 10 0;");
        due(39, "mount(0) without drives", none.mount(0), NO_DRIVE);
        due(39, "mount(1) without drives", none.mount(1), NO_INDEX);
        due(40, "eject(0) without drives", none.eject(0), NO_INDEX);
        OpticalJukebox x = of(MECHANICS);
        due(39, "mount(3)", x.mount(3), NO_INDEX);
        due(39, "mount(-1)", x.mount(-1), NO_INDEX);
        due(40, "eject(0) of an empty drive", x.eject(0), NOT_FOUND);
        due(40, "eject(2)", x.eject(2), NO_INDEX);
        due(40, "eject(-1)", x.eject(-1), NO_INDEX);
        due(39, "undo() after failures", x.undo(), NOT_FOUND);
        due(39, "mount(0)", x.mount(0), 15);
        due(39, "mount(1)", x.mount(1), 27);
        due(39, "mount(0) where it is", x.mount(0), 0);
        due(39, "mount(2) in place of 1", x.mount(2), 39);
        due(39, "driveOf(2)", x.driveOf(2), 1);
        due(39, "platterInSlot(4)", x.platterInSlot(4), 1);
        // 8 to 1, 1 to 0
        due(40, "eject(0)", x.eject(0), 16 + 6);
        due(40, "pickerPosition()", x.pickerPosition(), 0);
        due(40, "platterInSlot(0)", x.platterInSlot(0), 0);
        due(40, "platterInDrive(0)", x.platterInDrive(0), NOT_FOUND);
        due(40, "exchanges()", x.exchanges(), 3);
        due(40, "travel()", x.travel(), 1 + 7 + 10 + 8);
    }

    private static void read() {
        OpticalJukebox x = of(FILES);
        due(41, "read(4)", x.read(4), NO_INDEX);
        due(41, "read(-1)", x.read(-1), NO_INDEX);
        due(41, "read(2)", x.read(2), NOT_POSSIBLE);
        due(41, "read(0)", x.read(0), 18);
        due(41, "read(0) again", x.read(0), 6);
        // 3 to 3, 3 to 2, 2 to 6, 6 to 3, four grips, the spin-up, 7 sectors
        due(41, "read(3)", x.read(3), 8 + 8 + 5 + 7);
        due(41, "clock()", x.clock(), 52);
        due(41, "driveOf(1)", x.driveOf(1), 0);
        due(41, "exchanges()", x.exchanges(), 2);
        OpticalJukebox none = of("platter 0 10 0;file a 1 0;");
        due(41, "read(0) without drives", none.read(0), NO_DRIVE);
        due(41, "read(1) without drives", none.read(1), NO_INDEX);
    }

    private static void write() {
        OpticalJukebox x = of(MECHANICS);
        due(42, "write(3, 1, 0)", x.write(3, 1, 0), NO_INDEX);
        due(42, "write(0, 0, 3)", x.write(0, 0, 3), NO_INDEX);
        due(42, "write(0, 0, 0)", x.write(0, 0, 0), BAD_VALUE);
        due(42, "write(0, 301, 0)", x.write(0, 301, 0), BAD_VALUE);
        due(42, "write(0, 17, 0)", x.write(0, 17, 0), NOT_POSSIBLE);
        due(42, "write(0, 16, 0)", x.write(0, 16, 0), 15 + 80);
        due(42, "freeSectors(0)", x.freeSectors(0), 0);
        due(42, "sessionStart(0, 1)", x.sessionStart(0, 1), 4);
        due(42, "clock()", x.clock(), 95);
        due(42, "write(0, 1, 0) on a full platter", x.write(0, 1, 0), NOT_POSSIBLE);
        due(42, "write(2, 2, 1)", x.write(2, 2, 1), 27 + 10);
        due(42, "write(2, 3, 1) in the open session", x.write(2, 3, 1), 15);
        due(42, "sessionSize(1, 1)", x.sessionSize(1, 1), 5);
        due(42, "hasOpenSession(1)", x.hasOpenSession(1), 1);
        x.markBad(2, 8);
        x.markBad(2, 9);
        due(42, "write(1, 3, 2) with two bad sectors and a spare", x.write(1, 3, 2), NOT_POSSIBLE);
        due(42, "write(1, 2, 2) with a bad sector and a spare", x.write(1, 2, 2) > 0 ? 1 : 0, 1);
        due(42, "sparesLeft(2)", x.sparesLeft(2), 0);
        due(42, "remappedSectors(1)", x.remappedSectors(1), 1);
        due(42, "write(1, 1, 2) without spares", x.write(1, 1, 2), NOT_POSSIBLE);
        for (int n = 7; n < 40; n++) {
            due(42, "version " + n, x.write(0, 1, 1) >= 0 ? 1 : 0, 1);
        }
        due(42, "write of a 41st version", x.write(0, 1, 1), FULL);
        due(42, "write of a 41st version that does not fit", x.write(0, 300, 1), FULL);
        OpticalJukebox none = of("platter 0 10 0;file a 1 0;");
        due(42, "write(0, 300, 0) without drives", none.write(0, 300, 0), NO_DRIVE);
        OpticalJukebox eight = of("drive 0;platter 0 300 0;" + eight("file # 1 0;close 0;"));
        due(42, "write(0, 1, 0) after 8 sessions", eight.write(0, 1, 0), NOT_POSSIBLE);
        OpticalJukebox open = of("drive 0;platter 0 30 0;" + eight("file # 1 0;close 0;").replace("file h 1 0;close 0;", "file h 1 0;"));
        due(42, "write(0, 1, 0) in the open 8th session", open.write(0, 1, 0) >= 0 ? 1 : 0, 1);
    }

    private static void create() {
        OpticalJukebox x = of(MECHANICS);
        due(43, "create(0, 3)", x.create(0, 3), NO_INDEX);
        due(43, "create(1, -1)", x.create(1, -1), NO_INDEX);
        due(43, "create(0, 0)", x.create(0, 0), BAD_VALUE);
        due(43, "create(301, 0)", x.create(301, 0), BAD_VALUE);
        due(43, "create(17, 0)", x.create(17, 0), NOT_POSSIBLE);
        due(43, "create(3, 0)", x.create(3, 0), 3);
        due(43, "clock()", x.clock(), 15 + 15);
        due(43, "fileStart(3)", x.fileStart(3), 4);
        due(43, "fileSize(3)", x.fileSize(3), 3);
        due(43, "versionCount(3)", x.versionCount(3), 1);
        for (int n = 4; n < 20; n++) {
            due(43, "create(1, 1)", x.create(1, 1), n);
        }
        due(43, "create of a 21st file", x.create(1, 1), FULL);
        due(43, "create of a 21st file that does not fit", x.create(300, 1), FULL);
        OpticalJukebox y = of(MECHANICS.replace("platter 4 50 0", "platter 4 300 0"));
        for (int n = 3; n < 40; n++) {
            y.write(0, 1, 1);
        }
        due(43, "create of a 41st version", y.create(1, 1), FULL);
        OpticalJukebox none = of("platter 0 10 0;");
        due(43, "create(11, 0) without drives", none.create(11, 0), NO_DRIVE);
    }

    private static void closeSession() {
        OpticalJukebox x = of("drive 4;time 1 2 5 1 3;platter 0 10 0;platter 9 10 0;platter 5 10 0;platter 6 10 0;"
                + "file a 8 0;file b 9 1;file c 10 2;bad 0 8;");
        due(44, "closeSession(4)", x.closeSession(4), NO_INDEX);
        due(44, "closeSession(-1)", x.closeSession(-1), NO_INDEX);
        due(44, "closeSession(3)", x.closeSession(3), NOT_FOUND);
        due(44, "closeSession(0)", x.closeSession(0), 2);
        due(44, "clock()", x.clock(), 4 + 4 + 5 + 6);
        due(44, "closeSession(0) again", x.closeSession(0), NOT_FOUND);
        due(44, "closeSession(1)", x.closeSession(1), 1);
        // 4 to 0, 0 to 9, 9 to 4
        due(44, "clock()", x.clock(), 19 + 18 + 8 + 5 + 3);
        due(44, "closeSession(2)", x.closeSession(2), 0);
        // 4 to 9, 9 to 5, 5 to 4
        due(44, "clock()", x.clock(), 53 + 10 + 8 + 5);
        due(44, "freeSectors(1)", x.freeSectors(1), 0);
        due(44, "sessionSize(1, 0)", x.sessionSize(1, 0), 10);
        due(44, "hasOpenSession(2)", x.hasOpenSession(2), 0);
        due(44, "fileState(2)", x.fileState(2), 0);
        due(44, "fileState(0), a bad lead-out does not matter", x.fileState(0), 0);
        OpticalJukebox none = of("platter 0 10 0;platter 1 10 0;file a 1 0;");
        due(44, "closeSession(0) without drives", none.closeSession(0), NO_DRIVE);
        due(44, "closeSession(1) without drives", none.closeSession(1), NOT_FOUND);
    }

    private static void markBad() {
        OpticalJukebox x = of(FILES);
        due(45, "markBad(3, 0)", x.markBad(3, 0), NO_INDEX);
        due(45, "markBad(0, 40)", x.markBad(0, 40), NO_INDEX);
        due(45, "markBad(0, -1)", x.markBad(0, -1), NO_INDEX);
        due(45, "markBad(0, 1)", x.markBad(0, 1), UNCHANGED);
        due(45, "markBad(0, 30) unused", x.markBad(0, 30), 0);
        due(45, "sectorKind(0, 30)", x.sectorKind(0, 30), 10);
        due(45, "markBad(0, 6) of a lead-out", x.markBad(0, 6), 0);
        due(45, "markBad(0, 0)", x.markBad(0, 0), 1);
        due(45, "markBad(0, 3) of the same version", x.markBad(0, 3), 1);
        due(45, "markBad(0, 12)", x.markBad(0, 12), 2);
        x.write(1, 1, 2);
        due(45, "markBad(0, 5) of an old version", x.markBad(0, 5), 3);
        due(45, "fileState(1)", x.fileState(1), 2);
        due(45, "clock() is not changed", x.clock(), 13 + 4 + 5 + 3);
        for (int s = 290; s < 300; s++) {
            due(45, "markBad(2, " + s + ")", x.markBad(2, s), 3);
        }
        due(45, "markBad of a 21st", x.markBad(2, 100), FULL);
        due(45, "markBad of one of the 20", x.markBad(2, 290), UNCHANGED);
        due(45, "markBad of no sector", x.markBad(2, 300), NO_INDEX);
        x.undo();
        due(45, "markBad of another one after undo()", x.markBad(2, 100), 3);
        due(45, "markBad of a 21st after undo()", x.markBad(2, 101), FULL);
    }

    private static void moveHome() {
        OpticalJukebox x = of(MECHANICS);
        due(46, "moveHome(3, 1)", x.moveHome(3, 1), NO_INDEX);
        due(46, "moveHome(0, 10)", x.moveHome(0, 10), NO_INDEX);
        due(46, "moveHome(0, -1)", x.moveHome(0, -1), NO_INDEX);
        due(46, "moveHome(0, 0)", x.moveHome(0, 0), UNCHANGED);
        due(46, "moveHome(0, 4)", x.moveHome(0, 4), FULL);
        due(46, "moveHome(0, 5)", x.moveHome(0, 5), 0);
        due(46, "homeSlot(0)", x.homeSlot(0), 5);
        due(46, "platterInSlot(0)", x.platterInSlot(0), NOT_FOUND);
        due(46, "platterInSlot(5)", x.platterInSlot(5), 0);
        due(46, "clock()", x.clock(), 0);
        due(46, "moveHome(1, 0) to the slot that was left", x.moveHome(1, 0), 4);
        x.mount(0);
        due(46, "moveHome(0, 5) in a drive", x.moveHome(0, 5), UNCHANGED);
        due(46, "moveHome(0, 0) in a drive", x.moveHome(0, 0), NOT_FOUND);
        due(46, "moveHome(0, 7) in a drive", x.moveHome(0, 7), NOT_FOUND);
        due(46, "moveHome(2, 5) to the home of one in a drive", x.moveHome(2, 5), FULL);
    }

    private static void setTimes() {
        OpticalJukebox x = of(MECHANICS);
        due(47, "setTimes(2, 3, 7, 4, 5)", x.setTimes(2, 3, 7, 4, 5), UNCHANGED);
        due(47, "setTimes(-1, ..)", x.setTimes(-1, 3, 7, 4, 5), BAD_VALUE);
        due(47, "setTimes(.., 100, ..)", x.setTimes(2, 100, 7, 4, 5), BAD_VALUE);
        due(47, "setTimes(.., 100, ..)", x.setTimes(2, 3, 100, 4, 5), BAD_VALUE);
        due(47, "setTimes(.., -1, ..)", x.setTimes(2, 3, 7, -1, 5), BAD_VALUE);
        due(47, "setTimes(.., 100)", x.setTimes(2, 3, 7, 4, 100), BAD_VALUE);
        due(47, "setTimes(2, 3, 7, 4, 6)", x.setTimes(2, 3, 7, 4, 6), 21);
        due(47, "setTimes(99, 99, 99, 99, 99)", x.setTimes(99, 99, 99, 99, 99), 22);
        due(47, "mountTime(0)", x.mountTime(0), 99 * 4);
        due(47, "readTime(0)", x.readTime(0), 99 * 6);
        due(47, "setTimes(0, 0, 0, 0, 0)", x.setTimes(0, 0, 0, 0, 0), 495);
        due(47, "mount(2)", x.mount(2), 0);
        due(47, "travel()", x.travel(), 17);
        due(47, "setTimes(10, 20, 40, 1, 2)", x.setTimes(10, 20, 40, 1, 2), 0);
        // 1 to 0, 0 to 8 into the other drive
        due(47, "readTime(0)", x.readTime(0), 90 + 40 + 40 + 2);
        due(47, "write(2, 3, 2)", x.write(2, 3, 2), 6);
    }

    private static void requests() {
        OpticalJukebox x = of(FILES);
        due(48, "request(4)", x.request(4), NO_INDEX);
        due(48, "request(-1)", x.request(-1), NO_INDEX);
        due(48, "request(2)", x.request(2), NOT_POSSIBLE);
        for (int n = 1; n <= 16; n++) {
            due(48, "request", x.request(n % 2 == 0 ? 3 : n % 4 == 1 ? 0 : 1), n);
        }
        due(48, "request of a 17th", x.request(0), FULL);
        due(48, "request of an unreadable 17th", x.request(2), NOT_POSSIBLE);
        due(52, "requestedFile(0)", x.requestedFile(0), 0);
        due(52, "requestedFile(1)", x.requestedFile(1), 3);
        due(52, "requestedFile(2)", x.requestedFile(2), 1);
        due(52, "requestedFile(15)", x.requestedFile(15), 3);
        due(52, "requestedFile(16)", x.requestedFile(16), NO_INDEX);
        due(52, "requestedFile(-1)", x.requestedFile(-1), NO_INDEX);
        due(49, "dropRequest(16)", x.dropRequest(16), NO_INDEX);
        due(49, "dropRequest(-1)", x.dropRequest(-1), NO_INDEX);
        due(49, "dropRequest(15)", x.dropRequest(15), 3);
        due(49, "dropRequest(1)", x.dropRequest(1), 3);
        due(49, "requestedFile(0)", x.requestedFile(0), 0);
        due(49, "requestedFile(1)", x.requestedFile(1), 1);
        due(49, "requestedFile(13)", x.requestedFile(13), 1);
        due(49, "requestedFile(14)", x.requestedFile(14), NO_INDEX);
        due(49, "request(3) behind them", x.request(3), 15);
        due(49, "dropRequest(0)", x.dropRequest(0), 0);
        OpticalJukebox none = of("platter 0 10 0;file a 1 0;close 0;");
        due(48, "request(0) without drives", none.request(0), 1);
    }

    private static void serveBatch() {
        OpticalJukebox none = of("platter 0 10 0;file a 1 0;close 0;");
        due(50, "serveBatch() of nothing", none.serveBatch(), NOT_FOUND);
        none.request(0);
        due(50, "serveBatch() without drives", none.serveBatch(), NO_DRIVE);
        none.markBad(0, 0);
        due(50, "serveBatch() without drives, damaged", none.serveBatch(), NO_DRIVE);
        OpticalJukebox x = of(MECHANICS);
        x.mount(0);
        x.mount(2);
        x.request(1);
        x.request(0);
        x.request(1);
        // file 0 is read in drive 0, which makes drive 1 (at 8, with platter 2) the older one:
        // 8 to 9, 9 to 4, 4 to 8, four grips, the spin-up; then 2 sectors and twice 3
        int before = x.clock();
        due(50, "serveBatch()", x.serveBatch(), 20 + 12 + 7 + 8 + 24);
        due(50, "clock()", x.clock(), before + 71);
        due(50, "driveOf(1)", x.driveOf(1), 1);
        due(50, "driveOf(0)", x.driveOf(0), 0);
        due(50, "platterInSlot(9)", x.platterInSlot(9), 2);
        due(50, "exchanges()", x.exchanges(), 3);
        due(50, "requestedFile(0)", x.requestedFile(0), NO_INDEX);
        due(50, "serveBatch() again", x.serveBatch(), NOT_FOUND);
        due(50, "chosenDrive(2), drive 0 was used before drive 1", x.chosenDrive(2), 0);
        x.request(1);
        x.request(0);
        due(50, "serveBatch() of mounted ones", x.serveBatch(), 20);
        due(50, "chosenDrive(2), drives are read in their order", x.chosenDrive(2), 0);
        x.request(0);
        x.serveBatch();
        due(50, "chosenDrive(2) after reading in drive 0", x.chosenDrive(2), 1);
        x.request(0);
        x.request(1);
        x.markBad(1, 0);
        due(50, "serveBatch() of a damaged file", x.serveBatch(), NOT_POSSIBLE);
        due(50, "requestedFile(1) stays", x.requestedFile(1), 1);
        x.write(0, 1, 0);
        x.dropRequest(1);
        due(50, "serveBatch() of a file with an open session", x.serveBatch(), NOT_POSSIBLE);
        x.closeSession(0);
        due(50, "serveBatch() of the new version", x.serveBatch(), 4);
    }

    private static void undo() {
        OpticalJukebox x = of(MECHANICS);
        due(51, "undo() of nothing", x.undo(), NOT_FOUND);
        String empty = told(x);
        for (int n = 1; n <= 16; n++) {
            x.request(n % 3);
        }
        String sixteen = told(x);
        due(51, "undo() of the 16th request", x.undo(), 15);
        due(51, "request(1)", x.request(1), 16);
        due(51, "the same state again", told(x).equals(sixteen) ? 1 : 0, 1);
        for (int left = 15; left >= 0; left--) {
            due(51, "undo()", x.undo(), left);
        }
        due(51, "undo() of all", x.undo(), NOT_FOUND);
        due(51, "all is as it was", told(x).equals(empty) ? 1 : 0, 1);
        for (int n = 1; n <= 16; n++) {
            x.request(0);
        }
        x.dropRequest(3);
        due(51, "undo() with 17 edits", x.undo(), 15);
        for (int left = 14; left >= 0; left--) {
            due(51, "undo()", x.undo(), left);
        }
        due(51, "undo() of the 17th edit", x.undo(), NOT_FOUND);
        due(51, "requestedFile(0) of the edit that is forgotten", x.requestedFile(0), 0);
        due(51, "requestedFile(1)", x.requestedFile(1), NO_INDEX);
        eachEditIsUndone();
    }

    private static void eachEditIsUndone() {
        for (int edit = 0; edit < 12; edit++) {
            OpticalJukebox x = of(MECHANICS);
            x.mount(0);
            x.write(1, 2, 1);
            x.request(0);
            x.request(2);
            String before = told(x);
            switch (edit) {
                case 0 -> x.mount(0);
                case 1 -> x.eject(1);
                case 2 -> x.read(2);
                case 3 -> x.write(0, 3, 1);
                case 4 -> x.create(3, 0);
                case 5 -> x.closeSession(1);
                case 6 -> x.markBad(0, 1);
                case 7 -> x.moveHome(2, 5);
                case 8 -> x.setTimes(1, 1, 1, 1, 1);
                case 9 -> x.request(2);
                case 10 -> x.dropRequest(0);
                default -> x.serveBatch();
            }
            due(51, "edit " + edit + " changes", told(x).equals(before) ? 1 : 0, 0);
            due(51, "undo() of edit " + edit, x.undo(), 4);
            due(51, "edit " + edit + " is undone", told(x).equals(before) ? 1 : 0, 1);
        }
    }

    /** What the questions about a jukebox with the three platters of MECHANICS answer. */
    private static String told(OpticalJukebox x) {
        StringBuilder all = new StringBuilder(catalogue(x));
        for (int p = 0; p < 3; p++) {
            for (int s = 0; s < 20; s++) {
                all.append(x.sectorKind(p, s)).append(' ');
            }
            all.append(x.homeSlot(p)).append(' ').append(x.driveOf(p)).append(' ').append(x.chosenDrive(p)).append(' ')
                    .append(x.mountTime(p)).append(' ').append(x.freeSectors(p)).append(' ').append(x.sessionCount(p))
                    .append(' ').append(x.hasOpenSession(p)).append(' ').append(x.sessionSize(p, x.sessionCount(p) - 1))
                    .append(' ').append(x.sparesLeft(p)).append(' ').append(x.staleSectors(p)).append('\n');
        }
        for (int f = 0; f < 5; f++) {
            all.append(x.versionCount(f)).append(' ').append(x.fileState(f)).append(' ').append(x.readTime(f)).append('\n');
        }
        for (int r = 0; r < 17; r++) {
            all.append(x.requestedFile(r)).append(' ');
        }
        return all.append(x.batchTime()).append(' ').append(x.clock()).append(' ').append(x.travel()).append(' ')
                .append(x.exchanges()).append(' ').append(x.pickerPosition()).toString();
    }

    private static void batchQuestions() {
        OpticalJukebox x = of(MECHANICS);
        due(53, "batchTime() of nothing", x.batchTime(), NOT_FOUND);
        due(54, "batchExchanges() of nothing", x.batchExchanges(), NOT_FOUND);
        due(55, "batchPlatter(0) of nothing", x.batchPlatter(0), NOT_FOUND);
        due(55, "batchPlatter(-1) of nothing", x.batchPlatter(-1), NOT_FOUND);
        due(56, "oneByOneTime() of nothing", x.oneByOneTime(), NOT_FOUND);
        x.mount(0);
        x.mount(2);
        x.request(1);
        x.request(0);
        x.request(1);
        due(53, "batchTime()", x.batchTime(), 71);
        due(54, "batchExchanges()", x.batchExchanges(), 1);
        due(55, "batchPlatter(0)", x.batchPlatter(0), 1);
        due(55, "batchPlatter(1)", x.batchPlatter(1), NO_INDEX);
        due(55, "batchPlatter(-1)", x.batchPlatter(-1), NO_INDEX);
        due(53, "requestedFile(2) stays", x.requestedFile(2), 1);
        due(53, "driveOf(2) stays", x.driveOf(2), 1);
        x.setTimes(2, 3, 7, 99, 5);
        due(53, "batchTime() with another READ", x.batchTime(), 39 + 8 * 99);
        x.undo();
        x.dropRequest(0);
        x.dropRequest(1);
        due(53, "batchTime() of what is in a drive", x.batchTime(), 8);
        due(54, "batchExchanges() of what is in a drive", x.batchExchanges(), 0);
        due(55, "batchPlatter(0) of what is in a drive", x.batchPlatter(0), NO_INDEX);
        x.markBad(0, 0);
        due(53, "batchTime() of a damaged file", x.batchTime(), NOT_POSSIBLE);
        due(54, "batchExchanges() of a damaged file", x.batchExchanges(), NOT_POSSIBLE);
        due(55, "batchPlatter(0) of a damaged file", x.batchPlatter(0), NOT_POSSIBLE);
        due(55, "batchPlatter(7) of a damaged file", x.batchPlatter(7), NOT_POSSIBLE);
        due(56, "oneByOneTime() of a damaged file", x.oneByOneTime(), NOT_POSSIBLE);
        OpticalJukebox none = of("platter 0 10 0;file a 1 0;close 0;");
        none.request(0);
        due(53, "batchTime() without drives", none.batchTime(), NO_DRIVE);
        due(54, "batchExchanges() without drives", none.batchExchanges(), NO_DRIVE);
        due(55, "batchPlatter(0) without drives", none.batchPlatter(0), NO_DRIVE);
        due(56, "oneByOneTime() without drives", none.oneByOneTime(), NO_DRIVE);
        due(57, "leastTimeWithoutOne() of one request without drives", none.leastTimeWithoutOne(), NOT_FOUND);
        none.request(0);
        due(57, "leastTimeWithoutOne() without drives", none.leastTimeWithoutOne(), NO_DRIVE);
    }

    /** Ten platters in no drive, the order of which is compared with that of all orders. */
    private static void orderOfTheBatch() {
        int[] homes = {7, 20, 1, 14, 23, 4, 11, 17, 9, 2};
        int[] drives = {12, 0, 23, 6};
        for (int round = 0; round < 4; round++) {
            StringBuilder text = new StringBuilder("slots 24;drive " + drives[round] + ";time 3 1 4 0 1;");
            for (int p = 0; p < 10; p++) {
                text.append("platter ").append(homes[(p * 3 + round) % 10]).append(" 10 0;file ").append((char) ('a' + p))
                        .append(" 1 ").append(p).append(";close ").append(p).append(";");
            }
            OpticalJukebox x = of(text.toString());
            PlainJukebox plain = new PlainJukebox();
            load(plain, text.toString());
            for (int p = 9; p >= 0; p--) {
                x.request(p);
                plain.request(p);
            }
            due(53, "batchTime() of ten platters", x.batchTime(), plain.batchTime());
            due(54, "batchExchanges() of ten platters", x.batchExchanges(), 10);
            List<Integer> order = plain.batchOrder();
            for (int place = 0; place < 10; place++) {
                due(55, "batchPlatter(" + place + ") of ten", x.batchPlatter(place), order.get(place));
            }
            due(55, "batchPlatter(10) of ten", x.batchPlatter(10), NO_INDEX);
            x.setTimes(0, 1, 4, 0, 1);
            for (int place = 0; place < 10; place++) {
                due(55, "batchPlatter(" + place + "), all orders take the same", x.batchPlatter(place), place);
            }
            int free = x.batchTime();
            x.undo();
            due(53, "batchTime() after undo()", x.batchTime(), plain.batchTime());
            due(53, "batchTime() without MOVE", free, 10 * 4 + 9 * 4 + 2);
            x.setTimes(0, 1, 4, 0, 1);
            due(50, "serveBatch() of ten platters", x.serveBatch(), 10 * 4 + 9 * 4 + 2);
            due(50, "platterInDrive(0)", x.platterInDrive(0), 9);
        }
    }

    private static void load(PlainJukebox plain, String text) {
        for (int at = 0; at < text.length(); at += 20) {
            int[] five = new int[5];
            for (int i = 0; i < 20; i++) {
                five[i / 4] = five[i / 4] << 8 | (at + i < text.length() ? text.charAt(at + i) : ' ');
            }
            plain.feed(five[0], five[1], five[2], five[3], five[4]);
        }
        plain.load(text.length());
    }

    private static void oneByOne() {
        OpticalJukebox x = of(MECHANICS.replace("drive 8;", ""));
        x.request(0);
        x.request(1);
        x.request(0);
        // 0 to 1; 1 to 0, 0 to 4, 4 to 1; 1 to 4, 4 to 0, 0 to 1
        due(56, "oneByOneTime()", x.oneByOneTime(), 15 + 8 + 16 + 19 + 12 + 16 + 19 + 8);
        due(56, "clock() is not changed", x.clock(), 0);
        due(56, "platterInDrive(0) is not changed", x.platterInDrive(0), NOT_FOUND);
        due(56, "requestedFile(2) stays", x.requestedFile(2), 0);
        // 0 to 1; 1 to 0, 0 to 4, 4 to 1
        due(53, "batchTime()", x.batchTime(), 15 + 16 + 16 + 19 + 12);
        OpticalJukebox two = of(MECHANICS);
        two.request(0);
        two.request(1);
        two.request(0);
        due(56, "oneByOneTime() with two drives", two.oneByOneTime(), 15 + 8 + 27 + 12 + 8);
        int clock = two.clock();
        int sum = two.read(0) + two.read(1) + two.read(0);
        due(56, "the time of reading them", two.clock() - clock, sum);
        due(56, "the sum", sum, 70);
    }

    private static void withoutOne() {
        OpticalJukebox x = of(MECHANICS);
        due(57, "leastTimeWithoutOne() of nothing", x.leastTimeWithoutOne(), NOT_FOUND);
        x.request(2);
        due(57, "leastTimeWithoutOne() of one", x.leastTimeWithoutOne(), NOT_FOUND);
        x.request(0);
        // without file 2: 15 and 2 sectors
        due(57, "leastTimeWithoutOne() of two", x.leastTimeWithoutOne(), 15 + 8);
        x.request(2);
        // without file 0: 47 and 10 sectors; 0 and 2 would take 15 + 2 * 18 + 19 and 7 sectors
        due(57, "leastTimeWithoutOne() of three", x.leastTimeWithoutOne(), 47 + 40);
        due(57, "requestedFile(2) stays", x.requestedFile(2), 2);
        x.markBad(0, 0);
        due(57, "leastTimeWithoutOne() with a damaged file", x.leastTimeWithoutOne(), NOT_POSSIBLE);
        // what is dropped decides which drive is the older one: without file 0, drive 0 is used,
        // 9 to 8, 8 to 9, 9 to 4 against 8 to 1, 1 to 0, 0 to 4
        OpticalJukebox y = of("slots 10;drive 1;drive 8;time 1 0 0 0 0;platter 0 20 2;platter 4 50 0;platter 9 30 1;"
                + "file a 2 0;close 0;file b 3 1;close 1;file c 5 2;close 2;");
        y.mount(0);
        y.mount(2);
        y.request(0);
        y.request(1);
        y.request(1);
        due(57, "batchTime(): 8 to 9, 9 to 4, 4 to 8", y.batchTime(), 10);
        due(57, "leastTimeWithoutOne() of a used drive", y.leastTimeWithoutOne(), 10);
        y.read(0);
        y.request(2);
        due(57, "batchTime(): 8 to 1, 1 to 0, 0 to 4, 4 to 1", y.batchTime(), 15);
        due(57, "leastTimeWithoutOne(), drive 1 is the older one without file 2", y.leastTimeWithoutOne(), 10);
    }

    private static void nearestHome() {
        OpticalJukebox none = of("platter 0 10 0;");
        due(58, "nearestHome(0) without drives", none.nearestHome(0), NO_DRIVE);
        due(58, "nearestHome(1) without drives", none.nearestHome(1), NO_INDEX);
        OpticalJukebox x = of("slots 10;drive 5;drive 5;drive 8;platter 5 10 0;platter 8 10 0;platter 0 10 0;");
        due(58, "nearestHome(0): where it is", x.nearestHome(0), 5);
        due(58, "nearestHome(1): where it is", x.nearestHome(1), 8);
        due(58, "nearestHome(2): 4, 6, 7 and 9 are free", x.nearestHome(2), 4);
        due(58, "nearestHome(3)", x.nearestHome(3), NO_INDEX);
        due(58, "nearestHome(-1)", x.nearestHome(-1), NO_INDEX);
        x.mount(0);
        due(58, "nearestHome(2): 5 is still a home slot", x.nearestHome(2), 4);
        x.moveHome(1, 4);
        due(58, "nearestHome(2): 8 is free", x.nearestHome(2), 8);
    }

    private static void output() {
        OpticalJukebox x = new OpticalJukebox();
        due(60, "outputByte(0) before any output", x.outputByte(0), NO_INDEX);
        due(59, "writeCatalogue() of nothing", x.writeCatalogue(), 0);
        due(60, "outputByte(0) of nothing", x.outputByte(0), NO_INDEX);
        loadText(x, FILES);
        text(x, "0:0,0,4*;1:0,4,2*;2:0,8,5;3:1,0,7*;");
        x.markBad(0, 0);
        due(60, "outputByte(7) of the latest output", x.outputByte(7), '*');
        x.write(1, 120, 2);
        x.write(3, 33, 2);
        x.closeSession(2);
        text(x, "0:0,0,4;1:2,0,120*;2:0,8,5;3:2,120,33*;");
        x.load(0);
        due(60, "outputByte(0) after a load", x.outputByte(0), '0');
        due(59, "writeCatalogue() of the empty jukebox", x.writeCatalogue(), 0);
        due(60, "outputByte(0)", x.outputByte(0), NO_INDEX);
        StringBuilder files = new StringBuilder("drive 0;platter 0 300 0;platter 1 300 0;platter 2 300 0;file a 280 0;");
        for (char name = 'b'; name < 'u'; name++) {
            files.append("file ").append(name).append(" 1 0;");
        }
        loadText(x, files + "close 0;");
        StringBuilder want = new StringBuilder("0:0,0,280*;");
        for (int f = 1; f < 20; f++) {
            want.append(f).append(":0,").append(279 + f).append(",1*;");
        }
        text(x, want.toString());
        for (int index : new int[] {-1, LEAST, MOST, want.length()}) {
            due(60, "outputByte(" + index + ")", x.outputByte(index), NO_INDEX);
        }
    }

    private static void text(OpticalJukebox x, String want) {
        due(59, "writeCatalogue()", x.writeCatalogue(), want.length());
        for (int i = 0; i < want.length(); i++) {
            due(60, "outputByte(" + i + ") of " + want, x.outputByte(i), want.charAt(i));
        }
    }
}
