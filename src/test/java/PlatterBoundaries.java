import java.util.function.IntUnaryOperator;

/** The edges of promises 17 to 27: the sectors and sessions of platters. */
final class PlatterBoundaries {
    /**
     * Platter 0 has a closed session of a and b, with a remapped sector, and an open one of c;
     * platter 1 is full, with a lead-out of one sector; platter 2 is empty.
     */
    private static final String SESSIONS = "drive 3;platter 2 20 3;platter 6 10 0;platter 8 300 9;"
            + "bad 0 1;bad 0 6;file a 4 0;file b 1 0;close 0;file c 5 0;file d 9 1;close 1;";

    private PlatterBoundaries() {
    }

    private static void noSuchPlatter(String call, OpticalJukebox ofThree, IntUnaryOperator answer) {
        Checks.due(call + "(-1)", answer.applyAsInt(-1), Checks.NO_INDEX);
        Checks.due(call + "(3)", answer.applyAsInt(3), Checks.NO_INDEX);
        Checks.due(call + "(least)", answer.applyAsInt(Checks.LEAST), Checks.NO_INDEX);
        Checks.due(call + "(most)", answer.applyAsInt(Checks.MOST), Checks.NO_INDEX);
        Checks.due(call + "(2)", answer.applyAsInt(2) < 0 ? 1 : 0, 0);
        Checks.due("homeSlot(3)", ofThree.homeSlot(3), Checks.NO_INDEX);
    }

    // ---- promise 17

    @Sentence("NO_INDEX")
    static void promise17_noSuchPlatter() {
        OpticalJukebox x = Checks.of(SESSIONS);
        noSuchPlatter("freeSectors", x, x::freeSectors);
    }

    @Sentence({"the first unused sector is called its end, 0 at first", "Returns the number of unused sectors of a platter"})
    static void promise17_emptyAndFull() {
        OpticalJukebox x = Checks.of(SESSIONS);
        Checks.due("freeSectors(2) of an empty platter", x.freeSectors(2), 300);
        Checks.due("freeSectors(1) of a full platter", x.freeSectors(1), 0);
        Checks.due("freeSectors(0) without the lead-out's two", x.freeSectors(0), 20 - 4 - 1 - 2 - 5);
        x.create(300, 2);
        Checks.due("freeSectors(2) of a full platter", x.freeSectors(2), 0);
    }

    // ---- promise 18

    @Sentence("NO_INDEX")
    static void promise18_noSuchPlatter() {
        OpticalJukebox x = Checks.of(SESSIONS);
        noSuchPlatter("sessionCount", x, x::sessionCount);
    }

    @Sentence("Sessions of a platter are numbered from 0; there are at most 8")
    static void promise18_noSessionAndEight() {
        OpticalJukebox x = Checks.of("drive 0;platter 0 300 0;platter 1 10 0;file a 1 0;close 0;");
        Checks.due("sessionCount(1)", x.sessionCount(1), 0);
        for (int n = 2; n <= 8; n++) {
            x.write(0, 1, 0);
            Checks.due("sessionCount(0) while it is open", x.sessionCount(0), n);
            x.closeSession(0);
            Checks.due("sessionCount(0) when it is closed", x.sessionCount(0), n);
        }
        Checks.due("write(0, 1, 0)", x.write(0, 1, 0), Checks.NOT_POSSIBLE);
        Checks.due("sessionCount(0)", x.sessionCount(0), 8);
    }

    // ---- promise 19

    @Sentence("NO_INDEX")
    static void promise19_noSuchPlatter() {
        OpticalJukebox x = Checks.of(SESSIONS);
        noSuchPlatter("hasOpenSession", x, x::hasOpenSession);
    }

    @Sentence("Returns 1 if a platter has an open session, else 0")
    static void promise19_openClosedAndNone() {
        OpticalJukebox x = Checks.of(SESSIONS);
        Checks.due("hasOpenSession(0), the last is open", x.hasOpenSession(0), 1);
        Checks.due("hasOpenSession(1), closed", x.hasOpenSession(1), 0);
        Checks.due("hasOpenSession(2), no session", x.hasOpenSession(2), 0);
        x.create(300, 2);
        Checks.due("hasOpenSession(2), full and open", x.hasOpenSession(2), 1);
        x.closeSession(2);
        Checks.due("hasOpenSession(2) with a lead-out of 0", x.hasOpenSession(2), 0);
    }

    @Sentence("At most the last session is open, all others are closed")
    static void promise19_anOlderSessionStaysClosed() {
        OpticalJukebox x = Checks.of(SESSIONS);
        Checks.due("fileState(0) in the closed session", x.fileState(0), 0);
        Checks.due("fileState(2) in the open session", x.fileState(2), 2);
    }

    // ---- promise 20

    @Sentence("NO_INDEX (platter, then session)")
    static void promise20_noSuchPlatterOrSession() {
        OpticalJukebox x = Checks.of(SESSIONS);
        noSuchPlatter("sessionStart of session 0 of platter", x, p -> p == 2 ? 0 : x.sessionStart(p, 0));
        Checks.due("sessionStart(0, -1)", x.sessionStart(0, -1), Checks.NO_INDEX);
        Checks.due("sessionStart(0, 2)", x.sessionStart(0, 2), Checks.NO_INDEX);
        Checks.due("sessionStart(0, least)", x.sessionStart(0, Checks.LEAST), Checks.NO_INDEX);
        Checks.due("sessionStart(0, most)", x.sessionStart(0, Checks.MOST), Checks.NO_INDEX);
        Checks.due("sessionStart(2, 0) of an empty platter", x.sessionStart(2, 0), Checks.NO_INDEX);
        Checks.due("sessionStart(1, 1) of one session", x.sessionStart(1, 1), Checks.NO_INDEX);
    }

    @Sentence("If the platter has no open session, a new one begins at the end of the platter")
    static void promise20_theFirstAndTheLastSession() {
        OpticalJukebox x = Checks.of("platter 0 300 0;" + Checks.named('a', 8, "file # 1 0;close 0;"));
        Checks.due("sessionStart(0, 0)", x.sessionStart(0, 0), 0);
        Checks.due("sessionStart(0, 7)", x.sessionStart(0, 7), 21);
        Checks.due("sessionStart(0, 8)", x.sessionStart(0, 8), Checks.NO_INDEX);
        Checks.due("sessionStart(0, 1) behind a lead-out", Checks.of(SESSIONS).sessionStart(0, 1), 7);
    }

    // ---- promise 21

    @Sentence("NO_INDEX (platter, then session)")
    static void promise21_noSuchPlatterOrSession() {
        OpticalJukebox x = Checks.of(SESSIONS);
        noSuchPlatter("sessionSize of session 0 of platter", x, p -> p == 2 ? 0 : x.sessionSize(p, 0));
        Checks.due("sessionSize(0, -1)", x.sessionSize(0, -1), Checks.NO_INDEX);
        Checks.due("sessionSize(0, 2)", x.sessionSize(0, 2), Checks.NO_INDEX);
        Checks.due("sessionSize(0, least)", x.sessionSize(0, Checks.LEAST), Checks.NO_INDEX);
        Checks.due("sessionSize(0, most)", x.sessionSize(0, Checks.MOST), Checks.NO_INDEX);
        Checks.due("sessionSize(2, 0) of an empty platter", x.sessionSize(2, 0), Checks.NO_INDEX);
    }

    @Sentence({"Returns the number of sectors of a session of a platter (its lead-out included)",
        "a lead-out of 2 sectors to it, or of 1 or 0 sectors if no more are left"})
    static void promise21_withAndWithoutALeadOut() {
        OpticalJukebox x = Checks.of(SESSIONS);
        Checks.due("sessionSize(0, 0) with two sectors of lead-out", x.sessionSize(0, 0), 7);
        Checks.due("sessionSize(0, 1) still open", x.sessionSize(0, 1), 5);
        Checks.due("sessionSize(1, 0) with one sector of lead-out", x.sessionSize(1, 0), 10);
        x.create(300, 2);
        x.closeSession(2);
        Checks.due("sessionSize(2, 0) without a lead-out", x.sessionSize(2, 0), 300);
    }

    @Sentence("Returns the number of sectors of a session of a platter (its lead-out included)")
    static void promise21_aSessionThatWasUndoneOrLoadedBefore() {
        OpticalJukebox x = Checks.of(SESSIONS);
        for (int n = 0; n < 3; n++) {
            x.create(7, 2);
            x.undo();
        }
        x.create(2, 2);
        Checks.due("sessionSize(2, 0) after undo()", x.sessionSize(2, 0), 2);
        for (int n = 0; n < 3; n++) {
            Checks.loadText(x, SESSIONS);
            Checks.due("sessionSize(0, 0) after another load", x.sessionSize(0, 0), 7);
            Checks.due("sessionSize(0, 1) after another load", x.sessionSize(0, 1), 5);
        }
    }

    // ---- promise 22

    @Sentence("NO_INDEX")
    static void promise22_noSuchPlatter() {
        OpticalJukebox x = Checks.of(SESSIONS);
        noSuchPlatter("sparesLeft", x, x::sparesLeft);
    }

    @Sentence("For each bad sector among them one spare sector of the platter is used (the sector is remapped)")
    static void promise22_downToTheLastSpare() {
        OpticalJukebox x = Checks.of("drive 0;platter 0 20 2;bad 0 0;bad 0 1;bad 0 2;platter 1 10 9;");
        x.create(1, 0);
        Checks.due("sparesLeft(0)", x.sparesLeft(0), 1);
        x.create(1, 0);
        Checks.due("sparesLeft(0), none", x.sparesLeft(0), 0);
        Checks.due("create(1, 0) without spares", x.create(1, 0), Checks.NOT_POSSIBLE);
        Checks.due("sparesLeft(0) after a refused call", x.sparesLeft(0), 0);
        Checks.due("sparesLeft(1), the most", x.sparesLeft(1), 9);
    }

    @Sentence("Bad sectors in a lead-out do not matter")
    static void promise22_noSpareForALeadOut() {
        OpticalJukebox x = Checks.of(SESSIONS);
        Checks.due("sectorKind(0, 6) of a bad lead-out", x.sectorKind(0, 6), 13);
        Checks.due("sparesLeft(0)", x.sparesLeft(0), 2);
        x.markBad(0, 12);
        x.closeSession(0);
        Checks.due("sparesLeft(0) after another one", x.sparesLeft(0), 2);
        x.markBad(0, 2);
        Checks.due("sparesLeft(0) after damage", x.sparesLeft(0), 2);
    }

    // ---- promise 23

    @Sentence("NO_INDEX")
    static void promise23_noSuchPlatter() {
        OpticalJukebox x = Checks.of(SESSIONS);
        noSuchPlatter("staleSectors", x, x::staleSectors);
    }

    @Sentence("Returns the number of sectors of versions on a platter that are not the current version of their file")
    static void promise23_noneAndAll() {
        OpticalJukebox x = Checks.of(SESSIONS);
        Checks.due("staleSectors(2) of an empty platter", x.staleSectors(2), 0);
        Checks.due("staleSectors(0), all are current", x.staleSectors(0), 0);
        x.write(0, 1, 2);
        Checks.due("staleSectors(0), without the lead-out", x.staleSectors(0), 4);
        Checks.due("staleSectors(2), the current one", x.staleSectors(2), 0);
        x.write(0, 2, 2);
        x.write(0, 3, 0);
        Checks.due("staleSectors(2), both are old", x.staleSectors(2), 3);
        Checks.due("staleSectors(0), the file came back", x.staleSectors(0), 4);
        x.write(3, 1, 2);
        Checks.due("staleSectors(1) of a full platter", x.staleSectors(1), 9);
    }

    // ---- promise 24

    @Sentence("NO_INDEX (platter, then sector)")
    static void promise24_noSuchPlatterOrSector() {
        OpticalJukebox x = Checks.of(SESSIONS);
        noSuchPlatter("sectorKind of sector 0 of platter", x, p -> x.sectorKind(p, 0));
        Checks.due("sectorKind(1, -1)", x.sectorKind(1, -1), Checks.NO_INDEX);
        Checks.due("sectorKind(1, 10)", x.sectorKind(1, 10), Checks.NO_INDEX);
        Checks.due("sectorKind(2, 300)", x.sectorKind(2, 300), Checks.NO_INDEX);
        Checks.due("sectorKind(2, 299)", x.sectorKind(2, 299), 0);
        Checks.due("sectorKind(2, least)", x.sectorKind(2, Checks.LEAST), Checks.NO_INDEX);
        Checks.due("sectorKind(2, most)", x.sectorKind(2, Checks.MOST), Checks.NO_INDEX);
    }

    @Sentence("0 unused, 1 part of a current version, 2 part of another version, 3 part of a lead-out")
    static void promise24_theEdgesOfVersionsAndLeadOuts() {
        OpticalJukebox x = Checks.of(SESSIONS);
        x.write(0, 2, 2);
        int[] kinds = {2, 12, 2, 2, 1, 3, 13, 1, 1, 1, 1, 1, 0, 0};
        for (int s = 0; s < kinds.length; s++) {
            Checks.due("sectorKind(0, " + s + ")", x.sectorKind(0, s), kinds[s]);
        }
        Checks.due("sectorKind(1, 8)", x.sectorKind(1, 8), 1);
        Checks.due("sectorKind(1, 9)", x.sectorKind(1, 9), 3);
        Checks.due("sectorKind(2, 1)", x.sectorKind(2, 1), 1);
        Checks.due("sectorKind(2, 2)", x.sectorKind(2, 2), 0);
    }

    @Sentence("10 is added if the sector is bad")
    static void promise24_badSectorsOfEachKind() {
        OpticalJukebox x = Checks.of("drive 0;platter 0 64 0;file a 4 0;file b 4 0;close 0;");
        x.write(0, 1, 0);
        int[] sectors = {0, 4, 8, 63, 31, 32};
        int[] kinds = {12, 11, 13, 10, 10, 10};
        for (int i = 0; i < sectors.length; i++) {
            x.markBad(0, sectors[i]);
        }
        for (int i = 0; i < sectors.length; i++) {
            Checks.due("sectorKind(0, " + sectors[i] + ")", x.sectorKind(0, sectors[i]), kinds[i]);
        }
        Checks.due("sectorKind(0, 1)", x.sectorKind(0, 1), 2);
        Checks.due("sectorKind(0, 33)", x.sectorKind(0, 33), 0);
        Checks.due("sectorKind(0, 62)", x.sectorKind(0, 62), 0);
    }

    // ---- promise 25

    @Sentence("NO_INDEX")
    static void promise25_noSuchPlatter() {
        OpticalJukebox x = Checks.of(SESSIONS);
        noSuchPlatter("fillBits", x, x::fillBits);
    }

    @Sentence("the end of the platter divided by its CAPACITY, both converted to float and divided as floats")
    static void promise25_emptyAndFull() {
        OpticalJukebox x = Checks.of(SESSIONS);
        Checks.due("fillBits(2) of an empty platter", x.fillBits(2), 0);
        Checks.due("fillBits(1) of a full platter", x.fillBits(1), Float.floatToIntBits(1f));
        x.create(1, 2);
        Checks.due("fillBits(2), the smallest share", x.fillBits(2), Float.floatToIntBits(1f / 300f));
        x.create(298, 2);
        Checks.due("fillBits(2), the greatest but one", x.fillBits(2), Float.floatToIntBits(299f / 300f));
    }

    @Sentence("as the bits that Float.floatToIntBits returns")
    static void promise25_eachShareThatThereIs() {
        for (int capacity = 10; capacity <= 300; capacity++) {
            OpticalJukebox x = new OpticalJukebox();
            for (int end = 1; end <= capacity; end++) {
                Checks.loadText(x, "platter 0 " + capacity + " 0;file a " + end + " 0;");
                Checks.due("fillBits of " + end + "/" + capacity, x.fillBits(0),
                        Float.floatToIntBits((float) end / (float) capacity));
                if (end % 100 == 0) {
                    x = new OpticalJukebox();
                }
            }
        }
    }

    // ---- promise 26

    @Sentence("NO_INDEX")
    static void promise26_noSuchPlatter() {
        OpticalJukebox x = Checks.of(SESSIONS);
        noSuchPlatter("cleanRun", x, x::cleanRun);
    }

    @Sentence("Returns the longest run of consecutive sectors of a platter, from its end on, without a bad sector")
    static void promise26_emptyFullAndBad() {
        OpticalJukebox x = Checks.of("drive 0;platter 0 10 9;platter 1 10 0;file a 10 1;platter 2 300 0;");
        Checks.due("cleanRun(2) of an empty platter", x.cleanRun(2), 300);
        Checks.due("cleanRun(1) of a full platter", x.cleanRun(1), 0);
        Checks.due("cleanRun(0)", x.cleanRun(0), 10);
        x.markBad(0, 0);
        Checks.due("cleanRun(0), the first is bad", x.cleanRun(0), 9);
        x.markBad(0, 9);
        Checks.due("cleanRun(0), the last is bad, too", x.cleanRun(0), 8);
        x.markBad(0, 6);
        Checks.due("cleanRun(0) of 1 to 5 and 7 to 8", x.cleanRun(0), 5);
        x.markBad(0, 2);
        Checks.due("cleanRun(0) of 1, 3 to 5 and 7 to 8", x.cleanRun(0), 3);
        x.create(5, 0);
        Checks.due("cleanRun(0) of 5 and 7 to 8", x.cleanRun(0), 2);
        x.markBad(0, 5);
        x.markBad(0, 7);
        x.markBad(0, 8);
        Checks.due("cleanRun(0), all are bad", x.cleanRun(0), 0);
    }

    // ---- promise 27

    @Sentence("BAD_VALUE; NO_DRIVE; NOT_FOUND if the version cannot be written on any platter")
    static void promise27_sizesOutOfRange() {
        OpticalJukebox x = Checks.of(SESSIONS);
        Checks.due("bestPlatter(0)", x.bestPlatter(0), Checks.BAD_VALUE);
        Checks.due("bestPlatter(301)", x.bestPlatter(301), Checks.BAD_VALUE);
        Checks.due("bestPlatter(-1)", x.bestPlatter(-1), Checks.BAD_VALUE);
        Checks.due("bestPlatter(least)", x.bestPlatter(Checks.LEAST), Checks.BAD_VALUE);
        Checks.due("bestPlatter(most)", x.bestPlatter(Checks.MOST), Checks.BAD_VALUE);
        Checks.due("bestPlatter(300)", x.bestPlatter(300), 2);
        Checks.due("bestPlatter(1)", x.bestPlatter(1), 0);
        Checks.due("bestPlatter(0) without drives", Checks.of(Checks.NO_DRIVES).bestPlatter(0), Checks.BAD_VALUE);
    }

    @Sentence("NO_DRIVE; NOT_FOUND if the version cannot be written on any platter")
    static void promise27_noDrives() {
        OpticalJukebox x = Checks.of(Checks.NO_DRIVES);
        Checks.due("bestPlatter(1)", x.bestPlatter(1), Checks.NO_DRIVE);
        Checks.due("bestPlatter(300), which fits nowhere", x.bestPlatter(300), Checks.NO_DRIVE);
        Checks.due("bestPlatter(1) of a new object", new OpticalJukebox().bestPlatter(1), Checks.NO_DRIVE);
    }

    @Sentence("NOT_FOUND if the version cannot be written on any platter")
    static void promise27_noPlatterTakesIt() {
        Checks.due("bestPlatter(1) without platters", Checks.of("drive 0;").bestPlatter(1), Checks.NOT_FOUND);
        OpticalJukebox x = Checks.of("drive 0;platter 0 20 0;platter 1 20 0;file a 15 1;bad 0 5;");
        Checks.due("bestPlatter(5)", x.bestPlatter(5), 0);
        Checks.due("bestPlatter(6), one is bad and one is too small", x.bestPlatter(6), Checks.NOT_FOUND);
        OpticalJukebox eight = Checks.of("drive 0;platter 0 300 0;" + Checks.named('a', 8, "file # 1 0;close 0;"));
        Checks.due("bestPlatter(1) after 8 sessions", eight.bestPlatter(1), Checks.NOT_FOUND);
    }

    @Sentence("Returns the platter on which a version of that size can be written")
    static void promise27_platterNumbersThatAreNotThere() {
        OpticalJukebox x = Checks.of("drive 0;" + Checks.numbered(1, 10, "platter # 20 0;"));
        Checks.due("bestPlatter(20) of ten", x.bestPlatter(20), 0);
        for (int n = 0; n < 2; n++) {
            Checks.loadText(x, "drive 0;platter 9 20 0;platter 0 20 0;platter 1 300 0;");
        }
        for (int n = 0; n < 2; n++) {
            Checks.loadText(x, "drive 0;platter 9 20 0;");
            Checks.due("bestPlatter(20) of one", x.bestPlatter(20), 0);
            Checks.due("bestPlatter(21) of one", x.bestPlatter(21), Checks.NOT_FOUND);
        }
    }

    @Sentence("the smallest mountTime()")
    static void promise27_theSmallestMountTime() {
        OpticalJukebox x = Checks.of("drive 5;platter 11 10 0;platter 7 300 0;platter 6 20 0;");
        Checks.due("bestPlatter(1)", x.bestPlatter(1), 2);
        Checks.due("bestPlatter(21)", x.bestPlatter(21), 1);
        x.mount(0);
        Checks.due("bestPlatter(1) of one in the drive", x.bestPlatter(1), 0);
        Checks.due("bestPlatter(11), too large for it", x.bestPlatter(11), 2);
    }

    @Sentence("of several the one with the fewest free sectors, of several the lowest number")
    static void promise27_ties() {
        OpticalJukebox x = Checks.of("drive 5;time 0 1 1 1 1;platter 0 30 0;platter 1 20 0;platter 2 20 0;platter 3 40 0;");
        Checks.due("bestPlatter(1) of the same time", x.bestPlatter(1), 1);
        Checks.due("bestPlatter(20)", x.bestPlatter(20), 1);
        Checks.due("bestPlatter(21)", x.bestPlatter(21), 0);
        x.create(21, 3);
        x.eject(0);
        Checks.due("bestPlatter(19) with 19 free sectors", x.bestPlatter(19), 3);
        Checks.due("bestPlatter(20) with 20 free sectors", x.bestPlatter(20), 1);
    }
}
