import java.util.List;

/** The edges of promises 39 to 51: the edits and undo. */
final class EditBoundaries {
    private EditBoundaries() {
    }

    /** A call whose answer is an error code. */
    private interface Call {
        int answer(OpticalJukebox x);
    }

    /** Each call is refused with its code, and no call changes anything or can be undone. */
    private static void refused(OpticalJukebox x, int edits, int code, List<Call> calls) {
        String before = Checks.picture(x);
        int number = 0;
        for (Call call : calls) {
            Checks.due("refused call " + number, call.answer(x), code);
            number++;
        }
        Checks.same("after the refused calls", Checks.picture(x), before);
        Checks.due("undo() after the refused calls", x.undo(), edits == 0 ? Checks.NOT_FOUND : edits - 1);
    }

    /** With a platter in the first drive, an open session on another one, and a request: 3 edits. */
    private static OpticalJukebox busy() {
        OpticalJukebox x = Checks.of(Checks.THREE);
        x.mount(0);
        x.write(1, 2, 1);
        x.request(0);
        return x;
    }

    private static OpticalJukebox with40Versions() {
        OpticalJukebox x = Checks.of("drive 0;platter 0 300 0;platter 1 10 0;file a 1 0;");
        for (int n = 2; n <= 40; n++) {
            x.write(0, 1, 0);
        }
        return x;
    }

    // ---- promise 39

    @Sentence("@return the time that this took; NO_INDEX; NO_DRIVE")
    static void promise39_noSuchPlatter() {
        refused(busy(), 3, Checks.NO_INDEX, List.of(x -> x.mount(-1), x -> x.mount(3), x -> x.mount(Checks.LEAST),
                x -> x.mount(Checks.MOST)));
        refused(Checks.of(Checks.NO_DRIVES), 0, Checks.NO_INDEX, List.of(x -> x.mount(2)));
    }

    @Sentence("NO_DRIVE")
    static void promise39_noDrives() {
        refused(Checks.of(Checks.NO_DRIVES), 0, Checks.NO_DRIVE, List.of(x -> x.mount(0), x -> x.mount(1)));
    }

    @Sentence("(nothing is moved if it is in a drive; the drive counts as used in any case)")
    static void promise39_inADriveAlready() {
        OpticalJukebox x = Checks.of(Checks.THREE);
        x.mount(0);
        x.mount(1);
        Checks.due("mount(0)", x.mount(0), 0);
        Checks.due("pickerPosition()", x.pickerPosition(), 8);
        Checks.due("clock()", x.clock(), 15 + 27);
        Checks.due("exchanges()", x.exchanges(), 2);
        Checks.due("chosenDrive(2): drive 0 is the newer one", x.chosenDrive(2), 1);
        Checks.due("undo(): it was an edit", x.undo(), 2);
        Checks.due("chosenDrive(2): drive 0 is the older one", x.chosenDrive(2), 0);
    }

    @Sentence("A platter that is taken from a drive is always carried to its home slot")
    static void promise39_anotherPlatterIsInTheDrive() {
        OpticalJukebox x = Checks.of(Checks.THREE);
        x.mount(0);
        x.mount(1);
        // 8 to 1, 1 to 0, 0 to 9, 9 to 1
        Checks.due("mount(2)", x.mount(2), 2 * 25 + 4 * 3 + 7);
        Checks.due("platterInSlot(0)", x.platterInSlot(0), 0);
        Checks.due("driveOf(0)", x.driveOf(0), Checks.NOT_FOUND);
        Checks.due("driveOf(2)", x.driveOf(2), 0);
        Checks.due("driveOf(1)", x.driveOf(1), 1);
        Checks.due("travel()", x.travel(), 1 + 7 + 25);
    }

    // ---- promise 40

    @Sentence("@return the time that this took; NO_INDEX; NOT_FOUND if the drive is empty")
    static void promise40_noSuchDrive() {
        refused(busy(), 3, Checks.NO_INDEX, List.of(x -> x.eject(-1), x -> x.eject(2), x -> x.eject(Checks.LEAST),
                x -> x.eject(Checks.MOST)));
        refused(Checks.of(Checks.NO_DRIVES), 0, Checks.NO_INDEX, List.of(x -> x.eject(0)));
    }

    @Sentence("NOT_FOUND if the drive is empty")
    static void promise40_anEmptyDrive() {
        OpticalJukebox x = Checks.of(Checks.THREE);
        x.mount(0);
        x.eject(0);
        refused(x, 2, Checks.NOT_FOUND, List.of(y -> y.eject(0), y -> y.eject(1)));
    }

    @Sentence("Carries the platter in a drive to its home slot")
    static void promise40_fromNearAndFromFar() {
        OpticalJukebox x = Checks.of(Checks.THREE);
        x.mount(0);
        x.mount(1);
        // 8 to 1, 1 to 0
        Checks.due("eject(0)", x.eject(0), 2 * 8 + 6);
        Checks.due("pickerPosition()", x.pickerPosition(), 0);
        // 0 to 8, 8 to 4
        Checks.due("eject(1)", x.eject(1), 2 * 12 + 6);
        Checks.due("platterInSlot(4)", x.platterInSlot(4), 1);
        Checks.due("travel()", x.travel(), 8 + 8 + 12);
        OpticalJukebox near = Checks.of("drive 0;time 9 0 0 0 0;platter 0 10 0;");
        near.mount(0);
        Checks.due("eject(0) where the picker is, without GRIP", near.eject(0), 0);
        Checks.due("undo(): it was an edit", near.undo(), 1);
    }

    // ---- promise 41

    @Sentence("@return the time that this took; NO_INDEX; NO_DRIVE; NOT_POSSIBLE if the file is not readable")
    static void promise41_noSuchFile() {
        refused(busy(), 3, Checks.NO_INDEX, List.of(x -> x.read(-1), x -> x.read(3), x -> x.read(Checks.LEAST),
                x -> x.read(Checks.MOST)));
        refused(Checks.of(Checks.NO_DRIVES), 0, Checks.NO_INDEX, List.of(x -> x.read(2)));
    }

    @Sentence("NO_DRIVE; NOT_POSSIBLE if the file is not readable")
    static void promise41_noDrives() {
        refused(Checks.of(Checks.NO_DRIVES), 0, Checks.NO_DRIVE, List.of(x -> x.read(0), x -> x.read(1)));
    }

    @Sentence("NOT_POSSIBLE if the file is not readable")
    static void promise41_notReadable() {
        OpticalJukebox x = busy();
        x.markBad(2, 4);
        refused(x, 4, Checks.NOT_POSSIBLE, List.of(y -> y.read(1), y -> y.read(2)));
    }

    @Sentence("Reading a file brings the platter of its current version into the chosen drive")
    static void promise41_theCurrentVersionIsRead() {
        OpticalJukebox x = Checks.of("drive 0;time 0 0 0 1 0;platter 0 30 0;platter 1 300 1;bad 1 299;file a 3 0;close 0;");
        Checks.due("read(0)", x.read(0), 3);
        x.write(0, 300, 1);
        x.closeSession(1);
        Checks.due("read(0) of the new version", x.read(0), 301);
        Checks.due("platterInDrive(0)", x.platterInDrive(0), 1);
    }

    // ---- promise 42

    @Sentence("NO_INDEX (file, then platter)")
    static void promise42_noSuchFileOrPlatter() {
        refused(busy(), 3, Checks.NO_INDEX, List.of(x -> x.write(-1, 1, 0), x -> x.write(3, 1, 0), x -> x.write(0, 1, -1),
                x -> x.write(0, 1, 3), x -> x.write(Checks.MOST, 1, 0), x -> x.write(0, 1, Checks.LEAST),
                x -> x.write(3, 0, 0), x -> x.write(0, 301, 3)));
        refused(Checks.of(Checks.NO_DRIVES), 0, Checks.NO_INDEX, List.of(x -> x.write(2, 1, 0), x -> x.write(0, 1, 2)));
    }

    @Sentence("BAD_VALUE; FULL if there are 40 versions")
    static void promise42_sizesOutOfRange() {
        refused(busy(), 3, Checks.BAD_VALUE, List.of(x -> x.write(0, 0, 0), x -> x.write(0, 301, 0), x -> x.write(0, -1, 0),
                x -> x.write(0, Checks.LEAST, 0), x -> x.write(0, Checks.MOST, 0)));
        refused(with40Versions(), 16, Checks.BAD_VALUE, List.of(x -> x.write(0, 0, 0)));
        refused(Checks.of(Checks.NO_DRIVES), 0, Checks.BAD_VALUE, List.of(x -> x.write(0, 0, 0)));
        OpticalJukebox x = Checks.of("drive 0;time 0 0 0 0 1;platter 0 300 0;platter 1 300 0;file a 1 0;");
        Checks.due("write(0, 1, 0), the smallest", x.write(0, 1, 0), 1);
        Checks.due("write(0, 300, 1), the largest", x.write(0, 300, 1), 300);
    }

    @Sentence("FULL if there are 40 versions")
    static void promise42_fortyVersions() {
        OpticalJukebox x = with40Versions();
        refused(x, 16, Checks.FULL, List.of(y -> y.write(0, 1, 0), y -> y.write(0, 300, 0), y -> y.write(0, 11, 1)));
        Checks.due("write of the 40th after undo()", x.write(0, 1, 0), 3);
    }

    @Sentence("NO_DRIVE; NOT_POSSIBLE if the version cannot be written")
    static void promise42_noDrives() {
        refused(Checks.of(Checks.NO_DRIVES), 0, Checks.NO_DRIVE, List.of(x -> x.write(0, 1, 0), x -> x.write(0, 300, 0)));
    }

    @Sentence("if SIZE is greater than CAPACITY minus the end")
    static void promise42_theLastFreeSector() {
        refused(busy(), 3, Checks.NOT_POSSIBLE, List.of(x -> x.write(0, 17, 0), x -> x.write(0, 300, 0)));
        OpticalJukebox x = busy();
        Checks.due("write(0, 16, 0), all that is left", x.write(0, 16, 0), 16 * 5);
        Checks.due("freeSectors(0)", x.freeSectors(0), 0);
        refused(x, 4, Checks.NOT_POSSIBLE, List.of(y -> y.write(0, 1, 0)));
    }

    @Sentence("NOT_POSSIBLE if the version cannot be written")
    static void promise42_noSpareIsLeft() {
        OpticalJukebox x = busy();
        x.markBad(2, 8);
        x.markBad(2, 9);
        x.markBad(2, 11);
        refused(x, 6, Checks.NOT_POSSIBLE, List.of(y -> y.write(0, 3, 2)));
        x.markBad(2, 11);
        Checks.due("write(0, 2, 2) with the last spare", x.write(0, 2, 2) < 0 ? 1 : 0, 0);
        Checks.due("sparesLeft(2)", x.sparesLeft(2), 0);
        Checks.due("write(0, 1, 2) without a spare", x.write(0, 1, 2), Checks.NOT_POSSIBLE);
    }

    @Sentence("The version cannot be written if a new session is needed and there are 8 sessions")
    static void promise42_eightSessions() {
        OpticalJukebox x = Checks.of("drive 0;platter 0 300 0;" + Checks.named('a', 8, "file # 1 0;close 0;"));
        refused(x, 0, Checks.NOT_POSSIBLE, List.of(y -> y.write(0, 1, 0)));
        OpticalJukebox open = Checks.of("drive 0;platter 0 300 0;" + Checks.named('a', 7, "file # 1 0;close 0;") + "file h 1 0;");
        Checks.due("write(0, 1, 0) in the open 8th session", open.write(0, 1, 0) < 0 ? 1 : 0, 0);
        Checks.due("sessionSize(0, 7)", open.sessionSize(0, 7), 2);
    }

    @Sentence("The version takes the next SIZE sectors, and the end of the platter increases by SIZE")
    static void promise42_aNewSessionAndAnOpenOne() {
        OpticalJukebox x = Checks.of(Checks.THREE);
        Checks.due("write(0, 3, 0)", x.write(0, 3, 0), 15 + 3 * 5);
        Checks.due("sessionStart(0, 1)", x.sessionStart(0, 1), 4);
        Checks.due("write(1, 2, 0) in the open session", x.write(1, 2, 0), 2 * 5);
        Checks.due("fileStart(1)", x.fileStart(1), 7);
        Checks.due("sessionCount(0)", x.sessionCount(0), 2);
        Checks.due("sessionSize(0, 1)", x.sessionSize(0, 1), 5);
        Checks.due("freeSectors(0)", x.freeSectors(0), 20 - 9);
    }

    // ---- promise 43

    @Sentence("@return the number of the file; NO_INDEX; BAD_VALUE")
    static void promise43_noSuchPlatter() {
        refused(busy(), 3, Checks.NO_INDEX, List.of(x -> x.create(1, -1), x -> x.create(1, 3), x -> x.create(0, 3),
                x -> x.create(301, -1), x -> x.create(1, Checks.LEAST), x -> x.create(1, Checks.MOST)));
        refused(Checks.of(Checks.NO_DRIVES), 0, Checks.NO_INDEX, List.of(x -> x.create(1, 2)));
    }

    @Sentence("BAD_VALUE; FULL if there are 20 files or 40 versions")
    static void promise43_sizesOutOfRange() {
        refused(busy(), 3, Checks.BAD_VALUE, List.of(x -> x.create(0, 0), x -> x.create(301, 0), x -> x.create(-1, 0),
                x -> x.create(Checks.LEAST, 0), x -> x.create(Checks.MOST, 0)));
        refused(with40Versions(), 16, Checks.BAD_VALUE, List.of(x -> x.create(0, 0)));
        refused(Checks.of(Checks.NO_DRIVES), 0, Checks.BAD_VALUE, List.of(x -> x.create(301, 0)));
        OpticalJukebox x = Checks.of("drive 0;platter 0 300 0;platter 1 300 0;");
        Checks.due("create(300, 0), the largest", x.create(300, 0), 0);
        Checks.due("create(1, 1), the smallest", x.create(1, 1), 1);
    }

    @Sentence("FULL if there are 20 files or 40 versions")
    static void promise43_twentyFiles() {
        OpticalJukebox x = Checks.of("drive 0;platter 0 300 0;" + Checks.named('a', 19, "file # 1 0;"));
        Checks.due("create(1, 0) of the 20th", x.create(1, 0), 19);
        refused(x, 1, Checks.FULL, List.of(y -> y.create(1, 0), y -> y.create(300, 0)));
        Checks.due("create(1, 0) of the 20th after undo()", x.create(1, 0), 19);
    }

    @Sentence("FULL if there are 20 files or 40 versions; NO_DRIVE")
    static void promise43_twentyFilesAndNoDrives() {
        OpticalJukebox x = Checks.of("platter 0 300 0;" + Checks.named('a', 20, "file # 1 0;"));
        refused(x, 0, Checks.FULL, List.of(y -> y.create(1, 0), y -> y.create(300, 0)));
    }

    @Sentence("FULL if there are 20 files or 40 versions")
    static void promise43_fortyVersions() {
        OpticalJukebox x = with40Versions();
        refused(x, 16, Checks.FULL, List.of(y -> y.create(1, 0), y -> y.create(300, 0), y -> y.create(1, 1)));
        Checks.due("create(1, 0) of the 40th after undo()", x.create(1, 0), 1);
        Checks.due("create(1, 0) of the 41st", x.create(1, 0), Checks.FULL);
    }

    @Sentence("NO_DRIVE; NOT_POSSIBLE if the version cannot be written")
    static void promise43_noDrives() {
        refused(Checks.of(Checks.NO_DRIVES), 0, Checks.NO_DRIVE, List.of(x -> x.create(1, 0), x -> x.create(300, 0)));
    }

    @Sentence("NOT_POSSIBLE if the version cannot be written")
    static void promise43_theVersionCannotBeWritten() {
        OpticalJukebox x = busy();
        x.markBad(1, 7);
        refused(x, 4, Checks.NOT_POSSIBLE, List.of(y -> y.create(17, 0), y -> y.create(1, 1)));
        OpticalJukebox eight = Checks.of("drive 0;platter 0 300 0;" + Checks.named('a', 8, "file # 1 0;close 0;"));
        refused(eight, 0, Checks.NOT_POSSIBLE, List.of(y -> y.create(1, 0)));
    }

    @Sentence("Adds a file without a name (size 1 to 300) and writes its first version on a platter")
    static void promise43_theFirstFileOfAll() {
        OpticalJukebox x = Checks.of("slots 10;drive 4;platter 9 10 0;");
        Checks.due("create(10, 0), all that is left", x.create(10, 0), 0);
        Checks.due("versionCount(0)", x.versionCount(0), 1);
        // 0 to 9, 9 to 4
        Checks.due("clock()", x.clock(), 14 + 4 + 5 + 30);
        Checks.due("fileState(0)", x.fileState(0), 2);
        Checks.due("undo()", x.undo(), 0);
        Checks.due("versionCount(0) after undo()", x.versionCount(0), Checks.NO_INDEX);
    }

    // ---- promise 44

    @Sentence("@return the number of sectors of the lead-out; NO_INDEX; NOT_FOUND if it has no open session; NO_DRIVE")
    static void promise44_noSuchPlatter() {
        refused(busy(), 3, Checks.NO_INDEX, List.of(x -> x.closeSession(-1), x -> x.closeSession(3),
                x -> x.closeSession(Checks.LEAST), x -> x.closeSession(Checks.MOST)));
        refused(Checks.of(Checks.NO_DRIVES), 0, Checks.NO_INDEX, List.of(x -> x.closeSession(2)));
    }

    @Sentence("NOT_FOUND if it has no open session; NO_DRIVE")
    static void promise44_noOpenSession() {
        refused(busy(), 3, Checks.NOT_FOUND, List.of(x -> x.closeSession(0), x -> x.closeSession(2)));
        refused(Checks.of(Checks.NO_DRIVES), 0, Checks.NOT_FOUND, List.of(x -> x.closeSession(1)));
    }

    @Sentence("NO_DRIVE")
    static void promise44_noDrives() {
        refused(Checks.of(Checks.NO_DRIVES), 0, Checks.NO_DRIVE, List.of(x -> x.closeSession(0)));
    }

    @Sentence({"a lead-out of 2 sectors to it, or of 1 or 0 sectors if no more are left",
        "then needs WRITE for each sector of the lead-out"})
    static void promise44_leadOutsOf2And1And0() {
        OpticalJukebox x = Checks.of("drive 0;time 0 0 0 0 7;platter 0 10 0;platter 1 10 0;platter 2 10 0;"
                + "file a 8 0;file b 9 1;file c 10 2;bad 0 9;");
        Checks.due("closeSession(0)", x.closeSession(0), 2);
        Checks.due("clock()", x.clock(), 14);
        Checks.due("closeSession(1)", x.closeSession(1), 1);
        Checks.due("clock()", x.clock(), 21);
        Checks.due("closeSession(2)", x.closeSession(2), 0);
        Checks.due("clock()", x.clock(), 21);
        for (int p = 0; p < 3; p++) {
            Checks.due("freeSectors(" + p + ")", x.freeSectors(p), 0);
            Checks.due("hasOpenSession(" + p + ")", x.hasOpenSession(p), 0);
            Checks.due("fileState(" + p + ")", x.fileState(p), 0);
        }
        Checks.due("exchanges()", x.exchanges(), 3);
        Checks.due("closeSession(2) again", x.closeSession(2), Checks.NOT_FOUND);
    }

    // ---- promise 45

    @Sentence("NO_INDEX (platter, then sector)")
    static void promise45_noSuchPlatterOrSector() {
        refused(busy(), 3, Checks.NO_INDEX, List.of(x -> x.markBad(-1, 0), x -> x.markBad(3, 0), x -> x.markBad(0, -1),
                x -> x.markBad(0, 20), x -> x.markBad(1, 50), x -> x.markBad(0, Checks.MOST), x -> x.markBad(Checks.MOST, 0),
                x -> x.markBad(0, Checks.LEAST)));
        OpticalJukebox x = Checks.of("platter 0 300 0;platter 1 10 0;");
        Checks.due("markBad(0, 299), the last sector", x.markBad(0, 299), 0);
        Checks.due("markBad(1, 9), the last sector", x.markBad(1, 9), 0);
        Checks.due("markBad(1, 0), the first sector", x.markBad(1, 0), 0);
    }

    @Sentence("UNCHANGED if it is marked already; FULL if there are 20 bad sectors")
    static void promise45_markedAlready() {
        OpticalJukebox x = busy();
        x.markBad(0, 0);
        x.markBad(0, 19);
        refused(x, 5, Checks.UNCHANGED, List.of(y -> y.markBad(0, 0), y -> y.markBad(0, 19)));
        Checks.due("markBad(0, 19) after undo()", x.markBad(0, 19), 1);
        Checks.due("markBad(1, 19) of another platter", x.markBad(1, 19), 1);
    }

    @Sentence("FULL if there are 20 bad sectors")
    static void promise45_twentyBadSectors() {
        OpticalJukebox x = Checks.of("platter 0 30 0;" + Checks.numbered(0, 19, "bad 0 #;"));
        Checks.due("markBad(0, 19) of the 20th", x.markBad(0, 19), 0);
        Checks.due("markBad(0, 5) that is marked", x.markBad(0, 5), Checks.UNCHANGED);
        Checks.due("markBad(0, 30) that is not there", x.markBad(0, 30), Checks.NO_INDEX);
        refused(x, 1, Checks.FULL, List.of(y -> y.markBad(0, 20), y -> y.markBad(0, 29)));
        Checks.due("markBad(0, 20) of the 20th after undo()", x.markBad(0, 20), 0);
        Checks.due("markBad(0, 21)", x.markBad(0, 21), Checks.FULL);
    }

    @Sentence({"damages the version to which it belongs", "@return how many versions are damaged in the jukebox now"})
    static void promise45_noneOneAndTheSameVersion() {
        OpticalJukebox x = busy();
        Checks.due("markBad(0, 2) of a lead-out", x.markBad(0, 2), 0);
        Checks.due("markBad(0, 4) unused", x.markBad(0, 4), 0);
        Checks.due("markBad(1, 0) of an old version", x.markBad(1, 0), 1);
        Checks.due("markBad(1, 2) of the same version", x.markBad(1, 2), 1);
        Checks.due("fileState(1) of the current one", x.fileState(1), 2);
        Checks.due("markBad(1, 5) of the current one", x.markBad(1, 5), 2);
        Checks.due("fileState(1)", x.fileState(1), 1);
        Checks.due("markBad(2, 4), the last sector of a version", x.markBad(2, 4), 3);
        Checks.due("undo()", x.undo(), 8);
        Checks.due("fileState(2)", x.fileState(2), 0);
    }

    @Sentence("@return how many versions are damaged in the jukebox now")
    static void promise45_damageAmong40Versions() {
        OpticalJukebox x = with40Versions();
        Checks.due("markBad(0, 40) behind the last version", x.markBad(0, 40), 0);
        Checks.due("markBad(0, 39) of the last version", x.markBad(0, 39), 1);
        for (int s = 0; s < 18; s++) {
            Checks.due("markBad(0, " + s + ")", x.markBad(0, s), s + 2);
        }
        Checks.due("markBad of a 21st", x.markBad(0, 18), Checks.FULL);
    }

    @Sentence("@return how many versions are damaged in the jukebox now")
    static void promise45_damageThatWasUndone() {
        OpticalJukebox x = Checks.of(Checks.THREE);
        x.create(3, 0);
        Checks.due("markBad(0, 4)", x.markBad(0, 4), 1);
        x.undo();
        x.undo();
        x.setTimes(1, 1, 1, 1, 1);
        x.setTimes(2, 2, 2, 2, 2);
        x.undo();
        Checks.due("markBad(0, 4) without the version", x.markBad(0, 4), 0);
    }

    // ---- promise 46

    @Sentence("NO_INDEX (platter, then slot)")
    static void promise46_noSuchPlatterOrSlot() {
        refused(busy(), 3, Checks.NO_INDEX, List.of(x -> x.moveHome(-1, 1), x -> x.moveHome(3, 1), x -> x.moveHome(2, -1),
                x -> x.moveHome(2, 10), x -> x.moveHome(2, Checks.MOST), x -> x.moveHome(Checks.LEAST, 1)));
    }

    @Sentence("UNCHANGED; NOT_FOUND if the platter is in a drive")
    static void promise46_theSameSlot() {
        refused(busy(), 3, Checks.UNCHANGED, List.of(x -> x.moveHome(2, 9), x -> x.moveHome(0, 0), x -> x.moveHome(1, 4)));
    }

    @Sentence("NOT_FOUND if the platter is in a drive; FULL if the slot is the home slot of another platter")
    static void promise46_inADrive() {
        refused(busy(), 3, Checks.NOT_FOUND, List.of(x -> x.moveHome(0, 1), x -> x.moveHome(0, 9), x -> x.moveHome(1, 0)));
    }

    @Sentence("FULL if the slot is the home slot of another platter")
    static void promise46_theHomeOfAnother() {
        refused(Checks.of(Checks.THREE), 0, Checks.FULL, List.of(x -> x.moveHome(2, 4), x -> x.moveHome(2, 0)));
        refused(busy(), 3, Checks.FULL, List.of(x -> x.moveHome(2, 0), x -> x.moveHome(2, 4)));
    }

    @Sentence("Gives a platter that is in its home slot another home slot, to which it is brought by hand (no time)")
    static void promise46_theFirstAndTheLastSlot() {
        OpticalJukebox x = Checks.of(Checks.THREE);
        Checks.due("moveHome(2, 8)", x.moveHome(2, 8), 9);
        Checks.due("moveHome(0, 9)", x.moveHome(0, 9), 0);
        Checks.due("moveHome(1, 0)", x.moveHome(1, 0), 4);
        Checks.due("platterInSlot(0)", x.platterInSlot(0), 1);
        Checks.due("platterInSlot(9)", x.platterInSlot(9), 0);
        Checks.due("clock()", x.clock(), 0);
        Checks.due("travel()", x.travel(), 0);
        Checks.due("pickerPosition()", x.pickerPosition(), 0);
        Checks.due("mountTime(0): 0 to 9, 9 to 1", x.mountTime(0), 2 * 17 + 13);
    }

    // ---- promise 47

    @Sentence("@return the sum of the five previous times; BAD_VALUE; UNCHANGED if all five are the same")
    static void promise47_timesOutOfRange() {
        refused(busy(), 3, Checks.BAD_VALUE, List.of(x -> x.setTimes(-1, 3, 7, 4, 5), x -> x.setTimes(2, -1, 7, 4, 5),
                x -> x.setTimes(2, 3, -1, 4, 5), x -> x.setTimes(2, 3, 7, -1, 5), x -> x.setTimes(2, 3, 7, 4, -1)));
        refused(busy(), 3, Checks.BAD_VALUE, List.of(x -> x.setTimes(100, 3, 7, 4, 5), x -> x.setTimes(2, 100, 7, 4, 5),
                x -> x.setTimes(2, 3, 100, 4, 5), x -> x.setTimes(2, 3, 7, 100, 5), x -> x.setTimes(2, 3, 7, 4, 100)));
        refused(busy(), 3, Checks.BAD_VALUE, List.of(x -> x.setTimes(Checks.LEAST, 3, 7, 4, 5),
                x -> x.setTimes(2, 3, 7, 4, Checks.MOST)));
    }

    @Sentence("UNCHANGED if all five are the same")
    static void promise47_theSameTimes() {
        refused(busy(), 3, Checks.UNCHANGED, List.of(x -> x.setTimes(2, 3, 7, 4, 5)));
        for (int i = 0; i < 5; i++) {
            int[] t = {2, 3, 7, 4, 5};
            t[i]++;
            Checks.due("setTimes where one differs", busy().setTimes(t[0], t[1], t[2], t[3], t[4]), 21);
        }
    }

    @Sentence("Sets MOVE, GRIP, SPIN, READ and WRITE (0 to 99 each)")
    static void promise47_timesOf0And99() {
        OpticalJukebox x = busy();
        Checks.due("setTimes(0, 0, 0, 0, 0)", x.setTimes(0, 0, 0, 0, 0), 21);
        Checks.due("setTimes(99, 99, 99, 99, 99)", x.setTimes(99, 99, 99, 99, 99), 0);
        Checks.due("setTimes(99, 99, 99, 99, 98)", x.setTimes(99, 99, 99, 99, 98), 495);
        Checks.due("undo()", x.undo(), 5);
        Checks.due("setTimes of what stands after undo()", x.setTimes(99, 99, 99, 99, 99), Checks.UNCHANGED);
    }

    // ---- promise 48

    @Sentence("@return the number of requests; NO_INDEX; NOT_POSSIBLE if the file is not readable")
    static void promise48_noSuchFile() {
        refused(busy(), 3, Checks.NO_INDEX, List.of(x -> x.request(-1), x -> x.request(3), x -> x.request(Checks.LEAST),
                x -> x.request(Checks.MOST)));
    }

    @Sentence("NOT_POSSIBLE if the file is not readable; FULL if there are 16")
    static void promise48_notReadable() {
        OpticalJukebox x = busy();
        x.markBad(2, 0);
        refused(x, 4, Checks.NOT_POSSIBLE, List.of(y -> y.request(1), y -> y.request(2)));
        OpticalJukebox full = busy();
        for (int n = 2; n <= 16; n++) {
            full.request(0);
        }
        refused(full, 16, Checks.NOT_POSSIBLE, List.of(y -> y.request(1)));
    }

    @Sentence({"FULL if there are 16", "A batch is a list of at most 16 requests"})
    static void promise48_sixteenRequests() {
        OpticalJukebox x = Checks.of(Checks.THREE);
        for (int n = 1; n <= 16; n++) {
            Checks.due("request " + n, x.request(n % 3), n);
        }
        refused(x, 16, Checks.FULL, List.of(y -> y.request(0), y -> y.request(2)));
        Checks.due("request(2) of the 16th after undo()", x.request(2), 16);
        Checks.due("requestedFile(15)", x.requestedFile(15), 2);
    }

    @Sentence("Appends a request for a file to the batch")
    static void promise48_noDriveIsNeeded() {
        OpticalJukebox x = Checks.of(Checks.NO_DRIVES);
        Checks.due("request(0)", x.request(0), 1);
        Checks.due("request(0) again", x.request(0), 2);
    }

    // ---- promise 49

    @Sentence("@return its file; NO_INDEX")
    static void promise49_noSuchRequest() {
        refused(Checks.of(Checks.THREE), 0, Checks.NO_INDEX, List.of(x -> x.dropRequest(0), x -> x.dropRequest(-1)));
        refused(busy(), 3, Checks.NO_INDEX, List.of(x -> x.dropRequest(-1), x -> x.dropRequest(1),
                x -> x.dropRequest(Checks.LEAST), x -> x.dropRequest(Checks.MOST)));
        OpticalJukebox x = Checks.of(Checks.THREE);
        for (int n = 1; n <= 16; n++) {
            x.request(n % 3);
        }
        refused(x, 16, Checks.NO_INDEX, List.of(y -> y.dropRequest(16)));
    }

    @Sentence("Removes a request (numbered from 0); the numbers of later requests decrease by 1")
    static void promise49_theFirstTheLastAndTheOnlyOne() {
        OpticalJukebox x = Checks.of(Checks.THREE);
        for (int n = 0; n < 16; n++) {
            x.request(n % 3);
        }
        Checks.due("dropRequest(15), the last", x.dropRequest(15), 0);
        Checks.due("requestedFile(15)", x.requestedFile(15), Checks.NO_INDEX);
        Checks.due("dropRequest(0), the first", x.dropRequest(0), 0);
        Checks.due("dropRequest(1)", x.dropRequest(1), 2);
        Checks.due("requestedFile(0)", x.requestedFile(0), 1);
        Checks.due("requestedFile(1)", x.requestedFile(1), 0);
        Checks.due("requestedFile(12)", x.requestedFile(12), 2);
        Checks.due("requestedFile(13)", x.requestedFile(13), Checks.NO_INDEX);
        OpticalJukebox one = busy();
        Checks.due("dropRequest(0), the only one", one.dropRequest(0), 0);
        Checks.due("batchTime() of nothing", one.batchTime(), Checks.NOT_FOUND);
    }

    // ---- promise 50

    @Sentence("NOT_FOUND if the batch is empty; NO_DRIVE")
    static void promise50_anEmptyBatch() {
        refused(Checks.of(Checks.THREE), 0, Checks.NOT_FOUND, List.of(OpticalJukebox::serveBatch));
        refused(Checks.of(Checks.NO_DRIVES), 0, Checks.NOT_FOUND, List.of(OpticalJukebox::serveBatch));
    }

    @Sentence("NO_DRIVE; NOT_POSSIBLE if a requested file is not readable any more")
    static void promise50_noDrives() {
        OpticalJukebox x = Checks.of(Checks.NO_DRIVES);
        x.request(0);
        refused(x, 1, Checks.NO_DRIVE, List.of(OpticalJukebox::serveBatch));
        x.request(0);
        x.markBad(0, 0);
        refused(x, 2, Checks.NO_DRIVE, List.of(OpticalJukebox::serveBatch));
    }

    @Sentence("NOT_POSSIBLE if a requested file is not readable any more")
    static void promise50_notReadableAnyMore() {
        OpticalJukebox x = busy();
        x.request(2);
        x.markBad(2, 0);
        refused(x, 5, Checks.NOT_POSSIBLE, List.of(OpticalJukebox::serveBatch));
        x.write(0, 1, 0);
        refused(x, 5, Checks.NOT_POSSIBLE, List.of(OpticalJukebox::serveBatch));
        Checks.due("serveBatch() when both are readable again", x.serveBatch() < 0 ? 1 : 0, 0);
    }

    @Sentence("The batch is empty afterwards")
    static void promise50_emptyAfterwards() {
        OpticalJukebox x = busy();
        Checks.due("serveBatch()", x.serveBatch(), 2 * 4);
        Checks.due("requestedFile(0)", x.requestedFile(0), Checks.NO_INDEX);
        Checks.due("serveBatch() again", x.serveBatch(), Checks.NOT_FOUND);
        Checks.due("request(0)", x.request(0), 1);
    }

    @Sentence("a file that is requested twice is read twice")
    static void promise50_aFileSixteenTimes() {
        OpticalJukebox x = Checks.of(Checks.THREE);
        for (int n = 0; n < 16; n++) {
            x.request(0);
        }
        Checks.due("serveBatch()", x.serveBatch(), 15 + 16 * 2 * 4);
        Checks.due("exchanges()", x.exchanges(), 1);
    }

    @Sentence("First the requests whose platters are in drives are read, drive by drive in the order of the drive numbers")
    static void promise50_allAreInDrives() {
        OpticalJukebox x = Checks.of(Checks.THREE);
        x.mount(0);
        x.mount(2);
        x.request(2);
        x.request(0);
        Checks.due("serveBatch()", x.serveBatch(), (5 + 2) * 4);
        Checks.due("exchanges()", x.exchanges(), 2);
        Checks.due("chosenDrive(1): drive 1 was read last", x.chosenDrive(1), 0);
    }

    @Sentence("Then, if requests are left, the drive is chosen as for a platter that is in no drive; this drive is used for all other platters")
    static void promise50_oneDriveForAllOthers() {
        OpticalJukebox x = Checks.of("slots 10;drive 1;drive 8;drive 5;time 0 0 1 0 0;platter 0 20 2;platter 4 50 0;platter 9 30 1;"
                + "platter 5 20 0;file a 2 0;close 0;file b 3 1;close 1;file c 5 2;close 2;file d 1 3;close 3;");
        x.mount(0);
        x.mount(1);
        x.eject(0);
        x.request(3);
        x.request(2);
        x.request(0);
        x.request(1);
        Checks.due("serveBatch()", x.serveBatch(), 3);
        Checks.due("platterInDrive(0): the last of 0, 2 and 3", x.platterInDrive(0), 3);
        Checks.due("platterInDrive(1)", x.platterInDrive(1), 1);
        Checks.due("platterInDrive(2) stays empty", x.platterInDrive(2), Checks.NOT_FOUND);
    }

    @Sentence("the drive is chosen as for a platter that is in no drive")
    static void promise50_theDriveIsChosenAfterReading() {
        OpticalJukebox x = Checks.of(Checks.THREE);
        x.mount(0);
        x.mount(2);
        x.request(0);
        x.request(1);
        Checks.due("chosenDrive(1) before", x.chosenDrive(1), 0);
        // reading in drive 0 leaves drive 1 the older one: 8 to 9, 9 to 4, 4 to 8
        Checks.due("serveBatch()", x.serveBatch(), 2 * 4 + 2 * 10 + 12 + 7 + 3 * 4);
        Checks.due("platterInDrive(1)", x.platterInDrive(1), 1);
        Checks.due("platterInDrive(0)", x.platterInDrive(0), 0);
    }

    @Sentence("the drive is chosen as for a platter that is in no drive")
    static void promise50_allDrivesAreFullAndNoneIsRead() {
        OpticalJukebox x = Checks.of(Checks.THREE);
        x.mount(0);
        x.mount(2);
        x.request(1);
        x.serveBatch();
        Checks.due("platterInDrive(0), the older one", x.platterInDrive(0), 1);
        Checks.due("platterInDrive(1)", x.platterInDrive(1), 2);
    }

    @Sentence("the drive is chosen as for a platter that is in no drive")
    static void promise50_allDrivesAreReadBefore() {
        OpticalJukebox x = Checks.of(Checks.THREE);
        x.mount(0);
        x.mount(2);
        x.read(0);
        x.request(2);
        x.request(1);
        x.request(0);
        Checks.due("chosenDrive(1) before", x.chosenDrive(1), 1);
        x.serveBatch();
        Checks.due("platterInDrive(0), which was read first", x.platterInDrive(0), 1);
        Checks.due("platterInDrive(1)", x.platterInDrive(1), 2);
    }

    // ---- promise 51

    @Sentence("NOT_FOUND if there is none")
    static void promise51_nothingToUndo() {
        Checks.due("undo() of a new object", new OpticalJukebox().undo(), Checks.NOT_FOUND);
        OpticalJukebox x = Checks.of(Checks.THREE);
        String before = Checks.picture(x);
        Checks.due("undo() after a load", x.undo(), Checks.NOT_FOUND);
        x.mount(2);
        Checks.due("undo()", x.undo(), 0);
        Checks.due("undo() once more", x.undo(), Checks.NOT_FOUND);
        Checks.same("as it was", Checks.picture(x), before);
    }

    @Sentence("At most 16 edits are remembered; an older edit cannot be undone any more")
    static void promise51_sixteenAndSeventeenEdits() {
        for (int edits = 15; edits <= 18; edits++) {
            OpticalJukebox x = Checks.of(Checks.THREE);
            for (int n = 1; n <= edits; n++) {
                x.setTimes(n, n, n, n, n);
            }
            for (int left = Math.min(16, edits) - 1; left >= 0; left--) {
                Checks.due("undo() after " + edits + " edits", x.undo(), left);
            }
            Checks.due("undo() of all", x.undo(), Checks.NOT_FOUND);
            int stands = Math.max(0, edits - 16);
            Checks.due("setTimes of what stands", stands == 0 ? x.setTimes(2, 3, 7, 4, 5)
                    : x.setTimes(stands, stands, stands, stands, stands), Checks.UNCHANGED);
        }
    }

    /** The states lie in a ring, which is gone round more than once here. */
    @Sentence("Undoes the latest edit that is not undone yet")
    static void promise51_roundTheRing() {
        OpticalJukebox x = Checks.of(Checks.THREE);
        for (int n = 1; n <= 40; n++) {
            x.setTimes(n, n, n, n, n);
        }
        for (int left = 15; left >= 10; left--) {
            Checks.due("undo()", x.undo(), left);
        }
        Checks.due("setTimes of what stands", x.setTimes(34, 34, 34, 34, 34), Checks.UNCHANGED);
        for (int n = 50; n < 70; n++) {
            x.setTimes(n, n, n, n, n);
        }
        for (int left = 15; left >= 0; left--) {
            Checks.due("undo()", x.undo(), left);
            int stands = 50 + 3 + left;
            Checks.due("setTimes of what stands", x.setTimes(stands, stands, stands, stands, stands), Checks.UNCHANGED);
        }
        Checks.due("undo() of all", x.undo(), Checks.NOT_FOUND);
    }

    @Sentence("Every successful edit can be undone")
    static void promise51_eachEdit() {
        List<Call> edits = List.of(x -> x.mount(0), x -> x.eject(1), x -> x.read(2), x -> x.write(0, 3, 1), x -> x.create(3, 0),
                x -> x.closeSession(1), x -> x.markBad(0, 1), x -> x.moveHome(2, 5), x -> x.setTimes(1, 1, 1, 1, 1),
                x -> x.request(2), x -> x.dropRequest(0), OpticalJukebox::serveBatch);
        for (int edit = 0; edit < edits.size(); edit++) {
            OpticalJukebox x = busy();
            String before = Checks.picture(x);
            Checks.due("edit " + edit + " is refused", edits.get(edit).answer(x) < 0 ? 1 : 0, 0);
            Checks.due("edit " + edit + " changes nothing", Checks.picture(x).equals(before) ? 1 : 0, 0);
            Checks.due("undo() of edit " + edit, x.undo(), 3);
            Checks.same("after undo() of edit " + edit, Checks.picture(x), before);
        }
    }

    /** Every limit of the document at once: an edit and its undo find room for all. */
    @Sentence("Every successful edit can be undone")
    static void promise51_aJukeboxAtItsLimits() {
        OpticalJukebox x = Checks.of("slots 24;" + "drive 3;".repeat(4) + Checks.numbered(14, 10, "platter # 300 9;")
                + Checks.numbered(280, 9, "bad 0 #;bad 9 #;") + "bad 5 0;bad 5 299;");
        for (int f = 0; f < 20; f++) {
            Checks.due("create " + f, x.create(1, f % 10), f);
        }
        for (int n = 0; n < 10; n++) {
            x.closeSession(n);
        }
        for (int f = 0; f < 16; f++) {
            x.request(f);
        }
        for (int n = 0; n < 20; n++) {
            Checks.due("write " + n, x.write(16 + n % 4, 1, n % 10) < 0 ? 1 : 0, 0);
        }
        Checks.due("versionCount(19)", x.versionCount(19), 6);
        String before = Checks.picture(x);
        Checks.due("setTimes", x.setTimes(2, 2, 2, 2, 2), 12);
        Checks.due("undo()", x.undo(), 15);
        Checks.same("after undo()", Checks.picture(x), before);
        Checks.due("platterInSlot(23)", x.platterInSlot(23), Checks.NOT_FOUND);
        Checks.due("platterInSlot(24)", x.platterInSlot(24), Checks.NO_INDEX);
        Checks.due("sectorKind(9, 288)", x.sectorKind(9, 288), 10);
        Checks.due("requestedFile(15)", x.requestedFile(15), 15);
        Checks.due("serveBatch()", x.serveBatch() < 0 ? 1 : 0, 0);
        Checks.due("undo() of the batch", x.undo(), 15);
        Checks.same("after undo() of the batch", Checks.picture(x), before);
    }

    @Sentence("Undoes the latest edit that is not undone yet")
    static void promise51_remappedSectorsAndSlotsStay() {
        OpticalJukebox x = Checks.of("slots 24;drive 0;platter 23 20 3;bad 0 0;bad 0 1;file a 4 0;close 0;");
        for (int n = 0; n < 3; n++) {
            x.setTimes(0, 0, 0, n, n);
            x.setTimes(0, 0, 0, 7, 9);
            x.undo();
        }
        Checks.due("readTime(0), two sectors are remapped", x.readTime(0), 2 * 6);
        Checks.due("remappedSectors(0)", x.remappedSectors(0), 2);
        Checks.due("sparesLeft(0)", x.sparesLeft(0), 1);
        Checks.due("platterInSlot(23)", x.platterInSlot(23), 0);
        Checks.due("sectorKind(0, 1)", x.sectorKind(0, 1), 11);
    }

    /** A state that was left by undo() is used again, and what it had more must not be seen. */
    @Sentence("Undoes the latest edit that is not undone yet")
    static void promise51_whatWasUndoneIsGone() {
        OpticalJukebox x = Checks.of(Checks.THREE);
        x.create(3, 0);
        x.markBad(0, 5);
        x.undo();
        x.undo();
        String before = Checks.picture(x);
        x.setTimes(1, 1, 1, 1, 1);
        x.undo();
        Checks.same("after undo()", Checks.picture(x), before);
        Checks.due("fileOfSector(0, 4)", x.fileOfSector(0, 4), Checks.NOT_FOUND);
        Checks.due("staleSectors(0)", x.staleSectors(0), 0);
        Checks.due("markBad(0, 4)", x.markBad(0, 4), 0);
        Checks.due("create(3, 0) once more", x.create(3, 0), 3);
        Checks.due("fileState(3), not damaged", x.fileState(3), 2);
        Checks.due("sectorKind(0, 5), not bad", x.sectorKind(0, 5), 1);
    }

    @Sentence("the drive that was used least recently")
    static void promise51_theOrderOfUseIsUndone() {
        OpticalJukebox x = Checks.of(Checks.THREE);
        x.mount(0);
        x.mount(2);
        x.read(0);
        x.undo();
        Checks.due("chosenDrive(1) after undo()", x.chosenDrive(1), 0);
        x.setTimes(1, 1, 1, 1, 1);
        x.undo();
        x.mount(0);
        Checks.due("chosenDrive(1) after a new use", x.chosenDrive(1), 1);
        x.mount(2);
        Checks.due("chosenDrive(1) after another one", x.chosenDrive(1), 0);
    }

    @Sentence("A successful load() forgets all edits")
    static void promise51_loadsThatSucceedAndFail() {
        OpticalJukebox x = busy();
        Checks.due("load of a wrong text", Checks.loadText(x, "x"), Checks.BAD_TEXT);
        Checks.due("load(9) of nothing", x.load(9), Checks.BAD_VALUE);
        Checks.due("undo()", x.undo(), 2);
        x.load(0);
        Checks.due("undo() after a load", x.undo(), Checks.NOT_FOUND);
        x.setTimes(1, 1, 1, 1, 1);
        Checks.due("undo() of the first edit after it", x.undo(), 0);
    }

    @Sentence("Edits are the methods mount, eject, read, write, create, closeSession, markBad, moveHome, setTimes, request, "
            + "dropRequest and serveBatch")
    static void promise51_otherCallsAreNoEdits() {
        OpticalJukebox x = busy();
        x.feed(0, 0, 0, 0, 0);
        x.writeCatalogue();
        x.oneByOneTime();
        x.leastTimeWithoutOne();
        x.batchTime();
        x.batchPlatter(0);
        x.mountTime(2);
        x.nearestHome(2);
        x.bestPlatter(3);
        Checks.due("undo() of the request", x.undo(), 2);
        Checks.due("requestedFile(0)", x.requestedFile(0), Checks.NO_INDEX);
        Checks.due("undo() is no edit", x.undo(), 1);
    }
}
