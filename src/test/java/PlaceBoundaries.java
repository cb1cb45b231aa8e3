/** The edges of promises 6 to 16: slots, drives, the picker and the clock. */
final class PlaceBoundaries {
    private static final String TEN = "slots 24;" + Checks.numbered(0, 4, "drive #;") + Checks.numbered(14, 10, "platter # 10 0;");

    private PlaceBoundaries() {
    }

    // ---- promise 6

    @Sentence("NO_INDEX")
    static void promise06_noSuchPlatter() {
        OpticalJukebox x = Checks.of(Checks.THREE);
        Checks.due("homeSlot(-1)", x.homeSlot(-1), Checks.NO_INDEX);
        Checks.due("homeSlot(3)", x.homeSlot(3), Checks.NO_INDEX);
        Checks.due("homeSlot(least)", x.homeSlot(Checks.LEAST), Checks.NO_INDEX);
        Checks.due("homeSlot(most)", x.homeSlot(Checks.MOST), Checks.NO_INDEX);
        Checks.due("homeSlot(0) without platters", new OpticalJukebox().homeSlot(0), Checks.NO_INDEX);
    }

    @Sentence("Returns the home slot of a platter")
    static void promise06_theFirstAndTheLastPlatter() {
        OpticalJukebox x = Checks.of(TEN);
        Checks.due("homeSlot(0)", x.homeSlot(0), 14);
        Checks.due("homeSlot(9)", x.homeSlot(9), 23);
        Checks.due("homeSlot(10)", x.homeSlot(10), Checks.NO_INDEX);
        x.mount(9);
        Checks.due("homeSlot(9) in a drive", x.homeSlot(9), 23);
    }

    // ---- promise 7

    @Sentence("NO_INDEX")
    static void promise07_noSuchSlot() {
        OpticalJukebox x = Checks.of(Checks.THREE);
        Checks.due("platterInSlot(-1)", x.platterInSlot(-1), Checks.NO_INDEX);
        Checks.due("platterInSlot(10)", x.platterInSlot(10), Checks.NO_INDEX);
        Checks.due("platterInSlot(least)", x.platterInSlot(Checks.LEAST), Checks.NO_INDEX);
        Checks.due("platterInSlot(most)", x.platterInSlot(Checks.MOST), Checks.NO_INDEX);
        Checks.due("platterInSlot(0)", x.platterInSlot(0), 0);
        Checks.due("platterInSlot(9)", x.platterInSlot(9), 2);
    }

    @Sentence("NOT_FOUND if none does")
    static void promise07_anEmptySlot() {
        OpticalJukebox x = Checks.of(Checks.THREE);
        Checks.due("platterInSlot(1)", x.platterInSlot(1), Checks.NOT_FOUND);
        x.mount(2);
        Checks.due("platterInSlot(9) of a platter in a drive", x.platterInSlot(9), Checks.NOT_FOUND);
        x.eject(0);
        Checks.due("platterInSlot(9) of a platter that is back", x.platterInSlot(9), 2);
        x.moveHome(2, 1);
        Checks.due("platterInSlot(9) of a platter that moved", x.platterInSlot(9), Checks.NOT_FOUND);
        Checks.due("platterInSlot(1)", x.platterInSlot(1), 2);
    }

    // ---- promise 8

    @Sentence("NO_INDEX")
    static void promise08_noSuchPlatter() {
        OpticalJukebox x = Checks.of(Checks.THREE);
        Checks.due("driveOf(-1)", x.driveOf(-1), Checks.NO_INDEX);
        Checks.due("driveOf(3)", x.driveOf(3), Checks.NO_INDEX);
        Checks.due("driveOf(least)", x.driveOf(Checks.LEAST), Checks.NO_INDEX);
        Checks.due("driveOf(most)", x.driveOf(Checks.MOST), Checks.NO_INDEX);
    }

    @Sentence("NOT_FOUND if the platter is in its home slot")
    static void promise08_inItsHomeSlot() {
        OpticalJukebox x = Checks.of(Checks.THREE);
        Checks.due("driveOf(2)", x.driveOf(2), Checks.NOT_FOUND);
        x.mount(2);
        Checks.due("driveOf(2) in the first drive", x.driveOf(2), 0);
        x.eject(0);
        Checks.due("driveOf(2) carried back", x.driveOf(2), Checks.NOT_FOUND);
        Checks.due("driveOf(0) without drives", Checks.of(Checks.NO_DRIVES).driveOf(0), Checks.NOT_FOUND);
    }

    // ---- promise 9

    @Sentence("NO_INDEX")
    static void promise09_noSuchDrive() {
        OpticalJukebox x = Checks.of(Checks.THREE);
        Checks.due("platterInDrive(-1)", x.platterInDrive(-1), Checks.NO_INDEX);
        Checks.due("platterInDrive(2)", x.platterInDrive(2), Checks.NO_INDEX);
        Checks.due("platterInDrive(least)", x.platterInDrive(Checks.LEAST), Checks.NO_INDEX);
        Checks.due("platterInDrive(most)", x.platterInDrive(Checks.MOST), Checks.NO_INDEX);
        Checks.due("platterInDrive(0) without drives", Checks.of(Checks.NO_DRIVES).platterInDrive(0), Checks.NO_INDEX);
        Checks.due("platterInDrive(4) of four", Checks.of(TEN).platterInDrive(4), Checks.NO_INDEX);
    }

    @Sentence("NOT_FOUND if the drive is empty")
    static void promise09_anEmptyDrive() {
        OpticalJukebox x = Checks.of(TEN);
        Checks.due("platterInDrive(3)", x.platterInDrive(3), Checks.NOT_FOUND);
        for (int p = 0; p < 4; p++) {
            x.mount(p);
        }
        Checks.due("platterInDrive(0)", x.platterInDrive(0), 0);
        Checks.due("platterInDrive(3)", x.platterInDrive(3), 3);
        x.eject(3);
        Checks.due("platterInDrive(3) after eject(3)", x.platterInDrive(3), Checks.NOT_FOUND);
        Checks.due("platterInDrive(0) after eject(3)", x.platterInDrive(0), 0);
    }

    // ---- promise 10

    @Sentence("the picker is at position 0")
    static void promise10_theFirstAndTheLastPosition() {
        OpticalJukebox x = Checks.of("slots 24;drive 0;platter 23 10 0;");
        Checks.due("pickerPosition() at first", x.pickerPosition(), 0);
        x.mount(0);
        Checks.due("pickerPosition() at the drive", x.pickerPosition(), 0);
        x.eject(0);
        Checks.due("pickerPosition() at the last slot", x.pickerPosition(), 23);
        x.mount(0);
        x.mount(0);
        Checks.due("pickerPosition() when nothing is moved", x.pickerPosition(), 0);
    }

    // ---- promise 11

    @Sentence("the clock is 0")
    static void promise11_questionsTakeNoTime() {
        OpticalJukebox x = Checks.of(Checks.THREE);
        Checks.picture(x);
        Checks.due("clock()", x.clock(), 0);
    }

    @Sentence({"the picker needs MOVE for each position that it moves", "GRIP for taking a platter and GRIP for putting it down",
        "a drive needs SPIN after a platter was put into it"})
    static void promise11_nowhereToMove() {
        OpticalJukebox x = Checks.of("slots 4;drive 0;time 99 10 1 0 0;platter 0 10 0;");
        x.mount(0);
        Checks.due("clock() after mounting where the picker is", x.clock(), 2 * 10 + 1);
        x.eject(0);
        Checks.due("clock() after ejecting where the picker is", x.clock(), 4 * 10 + 1);
    }

    @Sentence("All movements increase the clock")
    static void promise11_timesOf0And99() {
        OpticalJukebox x = Checks.of("slots 24;drive 23;time 0 0 0 0 0;platter 0 300 0;file a 300 0;close 0;");
        x.read(0);
        Checks.due("clock() when all times are 0", x.clock(), 0);
        x.eject(0);
        x.setTimes(99, 99, 99, 99, 99);
        x.read(0);
        Checks.due("clock() when all times are 99", x.clock(), 99 * (23 + 2 + 1 + 300));
    }

    // ---- promise 12

    @Sentence("This counts as one exchange")
    static void promise12_whatIsAnExchangeAndWhatIsNot() {
        OpticalJukebox x = Checks.of("drive 3;platter 0 10 0;platter 5 10 0;file a 1 0;close 0;");
        Checks.due("exchanges() at first", x.exchanges(), 0);
        x.mount(0);
        Checks.due("exchanges() into an empty drive", x.exchanges(), 1);
        x.mount(0);
        x.read(0);
        Checks.due("exchanges() of a platter in a drive", x.exchanges(), 1);
        x.mount(1);
        Checks.due("exchanges() in place of another platter", x.exchanges(), 2);
        x.eject(0);
        Checks.due("exchanges() after an eject", x.exchanges(), 2);
    }

    // ---- promise 13

    @Sentence("Returns the number of positions that the picker has moved so far")
    static void promise13_positionsAndNotTime() {
        OpticalJukebox x = Checks.of("slots 24;drive 23;time 0 1 1 1 1;platter 0 10 0;platter 23 10 0;");
        Checks.due("travel() at first", x.travel(), 0);
        x.mount(0);
        Checks.due("travel() when MOVE is 0", x.travel(), 23);
        x.mount(0);
        Checks.due("travel() when nothing is moved", x.travel(), 23);
        x.mount(1);
        Checks.due("travel() 23 to 0, 0 to 23, 23 to 23", x.travel(), 69);
        x.eject(0);
        Checks.due("travel() where the picker is", x.travel(), 69);
    }

    // ---- promise 14

    @Sentence("Returns the drive that would be chosen for a platter; NO_INDEX; NO_DRIVE if there are no drives")
    static void promise14_noSuchPlatter() {
        OpticalJukebox x = Checks.of(Checks.THREE);
        Checks.due("chosenDrive(-1)", x.chosenDrive(-1), Checks.NO_INDEX);
        Checks.due("chosenDrive(3)", x.chosenDrive(3), Checks.NO_INDEX);
        Checks.due("chosenDrive(2) without drives", Checks.of(Checks.NO_DRIVES).chosenDrive(2), Checks.NO_INDEX);
    }

    @Sentence("NO_DRIVE if there are no drives")
    static void promise14_noDrives() {
        Checks.due("chosenDrive(0)", Checks.of(Checks.NO_DRIVES).chosenDrive(0), Checks.NO_DRIVE);
    }

    @Sentence("if the platter is in a drive, that drive (nothing is moved then)")
    static void promise14_thePlatterIsInADrive() {
        OpticalJukebox x = Checks.of(Checks.THREE);
        x.mount(0);
        x.mount(1);
        x.eject(0);
        Checks.due("chosenDrive(1) in drive 1, drive 0 is empty", x.chosenDrive(1), 1);
    }

    @Sentence("else the empty drive with the lowest number, if there is one")
    static void promise14_emptyDrives() {
        OpticalJukebox x = Checks.of(TEN);
        Checks.due("chosenDrive(9), all are empty", x.chosenDrive(9), 0);
        for (int p = 0; p < 3; p++) {
            x.mount(p);
        }
        Checks.due("chosenDrive(9), the last is empty", x.chosenDrive(9), 3);
        x.mount(3);
        x.eject(2);
        x.eject(1);
        Checks.due("chosenDrive(9), 1 and 2 are empty though used later than 0", x.chosenDrive(9), 1);
    }

    @Sentence("else the drive that was used least recently, of several the one with the lowest number")
    static void promise14_allDrivesAreFull() {
        OpticalJukebox x = Checks.of(TEN);
        for (int p = 0; p < 4; p++) {
            x.mount(p);
        }
        for (int p = 4; p < 9; p++) {
            Checks.due("chosenDrive(9)", x.chosenDrive(9), p % 4);
            x.mount(p);
        }
    }

    @Sentence({"A drive is used whenever a platter is brought into it",
        "whenever a file is read, a version is written, or a session is closed in it by a method"})
    static void promise14_eachUseOfADrive() {
        OpticalJukebox x = Checks.of(Checks.THREE);
        x.mount(0);
        x.mount(1);
        Checks.due("chosenDrive(2) after bringing into 0, then 1", x.chosenDrive(2), 0);
        x.read(0);
        Checks.due("chosenDrive(2) after reading in 0", x.chosenDrive(2), 1);
        x.write(1, 1, 1);
        Checks.due("chosenDrive(2) after writing in 1", x.chosenDrive(2), 0);
        x.create(1, 0);
        Checks.due("chosenDrive(2) after creating in 0", x.chosenDrive(2), 1);
        x.closeSession(1);
        Checks.due("chosenDrive(2) after closing in 1", x.chosenDrive(2), 0);
        x.mount(0);
        Checks.due("chosenDrive(2) after mounting what is in 0", x.chosenDrive(2), 1);
        x.request(1);
        x.serveBatch();
        Checks.due("chosenDrive(2) after a batch in 1", x.chosenDrive(2), 0);
    }

    @Sentence("A drive is used whenever")
    static void promise14_whatIsNoUse() {
        OpticalJukebox x = Checks.of(Checks.THREE);
        x.mount(0);
        x.mount(1);
        x.readTime(0);
        x.mountTime(0);
        x.mountTimeIn(0, 0);
        x.markBad(0, 19);
        x.read(9);
        Checks.due("read(0) of a damaged file", x.markBad(0, 0) + x.read(0), 1 + Checks.NOT_POSSIBLE);
        Checks.due("chosenDrive(2)", x.chosenDrive(2), 0);
    }

    // ---- promise 15

    @Sentence("NO_INDEX; NO_DRIVE")
    static void promise15_noSuchPlatter() {
        OpticalJukebox x = Checks.of(Checks.THREE);
        Checks.due("mountTime(-1)", x.mountTime(-1), Checks.NO_INDEX);
        Checks.due("mountTime(3)", x.mountTime(3), Checks.NO_INDEX);
        Checks.due("mountTime(2) without drives", Checks.of(Checks.NO_DRIVES).mountTime(2), Checks.NO_INDEX);
    }

    @Sentence("NO_INDEX; NO_DRIVE")
    static void promise15_noDrives() {
        Checks.due("mountTime(0)", Checks.of(Checks.NO_DRIVES).mountTime(0), Checks.NO_DRIVE);
    }

    @Sentence("0 if it is in a drive")
    static void promise15_inADrive() {
        OpticalJukebox x = Checks.of(Checks.THREE);
        x.mount(0);
        x.mount(2);
        Checks.due("mountTime(0)", x.mountTime(0), 0);
        Checks.due("mountTime(2)", x.mountTime(2), 0);
    }

    @Sentence("if the drive contains another platter, the picker moves to the drive, takes that platter, "
            + "moves to its home slot and puts it down")
    static void promise15_anEmptyAndAFullDrive() {
        OpticalJukebox x = Checks.of("slots 10;drive 3;time 10 3 1 0 0;platter 0 10 0;platter 5 10 0;");
        Checks.due("mountTime(0): 0 to 0, 0 to 3", x.mountTime(0), 30 + 6 + 1);
        x.mount(0);
        x.setTimes(10, 0, 0, 0, 0);
        Checks.due("mountTime(1): 3 to 3, 3 to 0, 0 to 5, 5 to 3", x.mountTime(1), 100);
        x.setTimes(0, 1, 0, 0, 0);
        Checks.due("mountTime(1): four grips", x.mountTime(1), 4);
        x.setTimes(0, 0, 1, 0, 0);
        Checks.due("mountTime(1): one spin-up", x.mountTime(1), 1);
    }

    // ---- promise 16

    @Sentence("NO_INDEX (platter, then drive)")
    static void promise16_noSuchPlatterOrDrive() {
        OpticalJukebox x = Checks.of(Checks.THREE);
        Checks.due("mountTimeIn(-1, 0)", x.mountTimeIn(-1, 0), Checks.NO_INDEX);
        Checks.due("mountTimeIn(3, 0)", x.mountTimeIn(3, 0), Checks.NO_INDEX);
        Checks.due("mountTimeIn(0, -1)", x.mountTimeIn(0, -1), Checks.NO_INDEX);
        Checks.due("mountTimeIn(0, 2)", x.mountTimeIn(0, 2), Checks.NO_INDEX);
        x.mount(0);
        Checks.due("mountTimeIn(0, 2) in another drive", x.mountTimeIn(0, 2), Checks.NO_INDEX);
        Checks.due("mountTimeIn(0, 0) without drives", Checks.of(Checks.NO_DRIVES).mountTimeIn(0, 0), Checks.NO_INDEX);
    }

    @Sentence("0 if it is in this drive")
    static void promise16_inThisDrive() {
        OpticalJukebox x = Checks.of(Checks.THREE);
        x.mount(0);
        x.mount(1);
        Checks.due("mountTimeIn(0, 0)", x.mountTimeIn(0, 0), 0);
        Checks.due("mountTimeIn(1, 1)", x.mountTimeIn(1, 1), 0);
    }

    @Sentence("NOT_FOUND if it is in another drive")
    static void promise16_inAnotherDrive() {
        OpticalJukebox x = Checks.of(Checks.THREE);
        x.mount(0);
        Checks.due("mountTimeIn(0, 1), which is empty", x.mountTimeIn(0, 1), Checks.NOT_FOUND);
        x.mount(1);
        Checks.due("mountTimeIn(0, 1), which is full", x.mountTimeIn(0, 1), Checks.NOT_FOUND);
        Checks.due("mountTimeIn(1, 0)", x.mountTimeIn(1, 0), Checks.NOT_FOUND);
    }

    @Sentence("Returns the time for bringing a platter into a drive that it is not in")
    static void promise16_notOnlyTheChosenDrive() {
        OpticalJukebox x = Checks.of(Checks.THREE);
        Checks.due("mountTimeIn(2, 0): 0 to 9, 9 to 1", x.mountTimeIn(2, 0), 2 * 17 + 6 + 7);
        Checks.due("mountTimeIn(2, 1): 0 to 9, 9 to 8", x.mountTimeIn(2, 1), 2 * 10 + 6 + 7);
        x.mount(0);
        Checks.due("mountTimeIn(2, 0): 1 to 0, 0 to 9, 9 to 1", x.mountTimeIn(2, 0), 2 * 18 + 12 + 7);
        Checks.due("mountTimeIn(2, 1): 1 to 9, 9 to 8", x.mountTimeIn(2, 1), 2 * 9 + 6 + 7);
    }
}
