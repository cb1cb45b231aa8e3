import java.util.function.IntUnaryOperator;

/** The edges of promises 28 to 38: the catalogue of the files. */
final class FileBoundaries {
    private static final String TWENTY = "drive 0;platter 0 300 0;platter 1 300 0;" + Checks.named('a', 20, "file # 1 0;") + "close 0;";

    private FileBoundaries() {
    }

    private static void noSuchFile(String call, IntUnaryOperator ofTwenty, IntUnaryOperator ofNone) {
        Checks.due(call + "(-1)", ofTwenty.applyAsInt(-1), Checks.NO_INDEX);
        Checks.due(call + "(20)", ofTwenty.applyAsInt(20), Checks.NO_INDEX);
        Checks.due(call + "(least)", ofTwenty.applyAsInt(Checks.LEAST), Checks.NO_INDEX);
        Checks.due(call + "(most)", ofTwenty.applyAsInt(Checks.MOST), Checks.NO_INDEX);
        Checks.due(call + "(0) without files", ofNone.applyAsInt(0), Checks.NO_INDEX);
    }

    // ---- promise 28

    @Sentence("NO_INDEX")
    static void promise28_noSuchFile() {
        OpticalJukebox x = Checks.of(TWENTY);
        noSuchFile("versionCount", x::versionCount, new OpticalJukebox()::versionCount);
        Checks.due("versionCount(19)", x.versionCount(19), 1);
    }

    @Sentence({"A file has one or more versions", "There are at most 40 versions in the jukebox"})
    static void promise28_oneVersionAndTheMost() {
        OpticalJukebox x = Checks.of("drive 0;platter 0 300 0;file a 1 0;");
        Checks.due("versionCount(0)", x.versionCount(0), 1);
        for (int n = 2; n <= 40; n++) {
            x.write(0, 1, 0);
        }
        Checks.due("versionCount(0) of all", x.versionCount(0), 40);
        Checks.due("write of another", x.write(0, 1, 0), Checks.FULL);
        Checks.due("versionCount(0) after a refused call", x.versionCount(0), 40);
    }

    // ---- promise 29

    @Sentence("NO_INDEX")
    static void promise29_noSuchFile() {
        OpticalJukebox x = Checks.of(TWENTY);
        noSuchFile("filePlatter", x::filePlatter, new OpticalJukebox()::filePlatter);
        Checks.due("filePlatter(19)", x.filePlatter(19), 0);
    }

    @Sentence({"Returns the platter of the current version of a file", "the last one is its current version"})
    static void promise29_theLastOfTwoVersions() {
        OpticalJukebox x = Checks.of(TWENTY);
        x.write(19, 1, 1);
        Checks.due("filePlatter(19)", x.filePlatter(19), 1);
        Checks.due("filePlatter(18)", x.filePlatter(18), 0);
    }

    // ---- promise 30

    @Sentence("NO_INDEX")
    static void promise30_noSuchFile() {
        OpticalJukebox x = Checks.of(TWENTY);
        noSuchFile("fileStart", x::fileStart, new OpticalJukebox()::fileStart);
        Checks.due("fileStart(19)", x.fileStart(19), 19);
    }

    @Sentence("Returns the first sector of the current version of a file")
    static void promise30_theFirstAndTheLastSector() {
        OpticalJukebox x = Checks.of(TWENTY);
        Checks.due("fileStart(0)", x.fileStart(0), 0);
        x.write(0, 277, 0);
        Checks.due("fileStart(0) behind the lead-out", x.fileStart(0), 22);
        x.write(1, 1, 0);
        Checks.due("fileStart(1) on the last sector", x.fileStart(1), 299);
    }

    // ---- promise 31

    @Sentence("NO_INDEX")
    static void promise31_noSuchFile() {
        OpticalJukebox x = Checks.of(TWENTY);
        noSuchFile("fileSize", x::fileSize, new OpticalJukebox()::fileSize);
        Checks.due("fileSize(19)", x.fileSize(19), 1);
    }

    @Sentence("Returns the number of sectors of the current version of a file")
    static void promise31_oneSectorAndAllSectors() {
        OpticalJukebox x = Checks.of(TWENTY);
        Checks.due("fileSize(0)", x.fileSize(0), 1);
        x.write(0, 300, 1);
        Checks.due("fileSize(0) of a whole platter", x.fileSize(0), 300);
        x.closeSession(1);
        Checks.due("fileSize(0) without the lead-out", x.fileSize(0), 300);
    }

    // ---- promise 32

    @Sentence("NO_INDEX")
    static void promise32_noSuchFile() {
        OpticalJukebox x = Checks.of(TWENTY);
        noSuchFile("fileSession", x::fileSession, new OpticalJukebox()::fileSession);
        Checks.due("fileSession(19)", x.fileSession(19), 0);
    }

    @Sentence("Returns the session of the current version of a file")
    static void promise32_theFirstAndTheLastSession() {
        OpticalJukebox x = Checks.of("drive 0;platter 0 300 0;" + Checks.named('a', 8, "file # 1 0;close 0;"));
        Checks.due("fileSession(0)", x.fileSession(0), 0);
        Checks.due("fileSession(7)", x.fileSession(7), 7);
    }

    // ---- promise 33

    @Sentence("NO_INDEX")
    static void promise33_noSuchFile() {
        OpticalJukebox x = Checks.of(TWENTY);
        noSuchFile("remappedSectors", x::remappedSectors, new OpticalJukebox()::remappedSectors);
        Checks.due("remappedSectors(19)", x.remappedSectors(19), 0);
    }

    @Sentence("Returns the number of remapped sectors of the current version of a file")
    static void promise33_theEdgesOfAVersion() {
        OpticalJukebox x = Checks.of("drive 0;platter 0 30 9;bad 0 1;bad 0 2;bad 0 4;bad 0 5;"
                + "file a 2 0;file b 3 0;file c 1 0;file d 3 0;");
        Checks.due("remappedSectors(0), its last", x.remappedSectors(0), 1);
        Checks.due("remappedSectors(1), its first and last", x.remappedSectors(1), 2);
        Checks.due("remappedSectors(2), all", x.remappedSectors(2), 1);
        Checks.due("remappedSectors(3), none", x.remappedSectors(3), 0);
        x.markBad(0, 6);
        Checks.due("remappedSectors(3) after damage", x.remappedSectors(3), 0);
        x.write(1, 1, 0);
        Checks.due("remappedSectors(1) of the new version", x.remappedSectors(1), 0);
    }

    // ---- promise 34

    @Sentence("NO_INDEX")
    static void promise34_noSuchFile() {
        OpticalJukebox x = Checks.of(TWENTY);
        noSuchFile("fileState", x::fileState, new OpticalJukebox()::fileState);
        Checks.due("fileState(19)", x.fileState(19), 0);
    }

    @Sentence({"Returns 0 if a file is readable, 1 if its current version is damaged, 2 if it is not damaged but in an open session",
        "A file is readable if its current version is in a closed session and is not damaged"})
    static void promise34_damagedAndOpen() {
        OpticalJukebox x = Checks.of("drive 0;platter 0 30 0;file a 3 0;file b 3 0;");
        Checks.due("fileState(0) in an open session", x.fileState(0), 2);
        x.markBad(0, 0);
        Checks.due("fileState(0) damaged in an open session", x.fileState(0), 1);
        x.closeSession(0);
        Checks.due("fileState(0) damaged", x.fileState(0), 1);
        Checks.due("fileState(1)", x.fileState(1), 0);
        x.write(0, 1, 0);
        Checks.due("fileState(0) of the new version", x.fileState(0), 2);
        x.closeSession(0);
        Checks.due("fileState(0) of the new version, closed", x.fileState(0), 0);
    }

    @Sentence("A version is damaged if one of its sectors became bad after it had been written")
    static void promise34_theFirstAndTheLastSector() {
        OpticalJukebox x = Checks.of("drive 0;platter 0 40 9;platter 1 40 0;file a 3 0;file b 3 0;file c 3 0;close 0;");
        x.markBad(0, 2);
        x.markBad(0, 6);
        Checks.due("fileState(0), its last is bad", x.fileState(0), 1);
        Checks.due("fileState(1), those beside it are bad", x.fileState(1), 0);
        Checks.due("fileState(2), its first is bad", x.fileState(2), 1);
        x.markBad(1, 4);
        x.markBad(0, 9);
        Checks.due("fileState(1), others are bad", x.fileState(1), 0);
        x.write(1, 3, 0);
        x.closeSession(0);
        Checks.due("fileState(1), written before", x.fileState(1), 0);
        x.markBad(0, 14);
        Checks.due("fileState(1), a lead-out is bad", x.fileState(1), 0);
    }

    // ---- promise 35

    @Sentence("NO_INDEX; NO_DRIVE; NOT_POSSIBLE if the file is not readable")
    static void promise35_noSuchFile() {
        OpticalJukebox x = Checks.of(TWENTY);
        noSuchFile("readTime", x::readTime, new OpticalJukebox()::readTime);
        Checks.due("readTime(19)", x.readTime(19), 2 * 2 + 5 + 1);
        Checks.due("readTime(2) without drives", Checks.of(Checks.NO_DRIVES).readTime(2), Checks.NO_INDEX);
    }

    @Sentence("NO_DRIVE; NOT_POSSIBLE if the file is not readable")
    static void promise35_noDrives() {
        OpticalJukebox x = Checks.of(Checks.NO_DRIVES);
        Checks.due("readTime(0)", x.readTime(0), Checks.NO_DRIVE);
        Checks.due("readTime(1) in an open session", x.readTime(1), Checks.NO_DRIVE);
    }

    @Sentence("NOT_POSSIBLE if the file is not readable")
    static void promise35_notReadable() {
        OpticalJukebox x = Checks.of(Checks.THREE);
        x.write(0, 1, 0);
        Checks.due("readTime(0) in an open session", x.readTime(0), Checks.NOT_POSSIBLE);
        x.markBad(1, 0);
        Checks.due("readTime(1) damaged", x.readTime(1), Checks.NOT_POSSIBLE);
        Checks.due("readTime(2)", x.readTime(2) < 0 ? 1 : 0, 0);
    }

    @Sentence("READ for each sector of the version, and READ once more for each remapped sector of it")
    static void promise35_remappedSectorsTakeTwice() {
        OpticalJukebox x = Checks.of("drive 0;time 0 0 0 99 0;platter 0 300 2;bad 0 0;bad 0 299;file a 300 0;close 0;");
        Checks.due("readTime(0)", x.readTime(0), 99 * 302);
        x.setTimes(0, 0, 0, 0, 0);
        Checks.due("readTime(0) without times", x.readTime(0), 0);
        x.setTimes(1, 2, 5, 1, 1);
        Checks.due("readTime(0), mounting included", x.readTime(0), 9 + 302);
        x.mount(0);
        Checks.due("readTime(0) in the drive", x.readTime(0), 302);
    }

    // ---- promise 36

    @Sentence("NO_INDEX")
    static void promise36_noSuchFile() {
        OpticalJukebox x = Checks.of(TWENTY);
        noSuchFile("lastGoodVersion", x::lastGoodVersion, new OpticalJukebox()::lastGoodVersion);
        Checks.due("lastGoodVersion(19)", x.lastGoodVersion(19), 0);
    }

    @Sentence("NOT_FOUND if there is none")
    static void promise36_noGoodVersion() {
        OpticalJukebox x = Checks.of("drive 0;platter 0 30 0;file a 3 0;file b 3 0;");
        Checks.due("lastGoodVersion(0) in an open session", x.lastGoodVersion(0), Checks.NOT_FOUND);
        x.closeSession(0);
        Checks.due("lastGoodVersion(0) in a closed session", x.lastGoodVersion(0), 0);
        x.markBad(0, 2);
        Checks.due("lastGoodVersion(0) damaged", x.lastGoodVersion(0), Checks.NOT_FOUND);
        x.write(0, 1, 0);
        Checks.due("lastGoodVersion(0), the new one is open", x.lastGoodVersion(0), Checks.NOT_FOUND);
    }

    @Sentence("Returns the last version of a file that is in a closed session and is not damaged (versions are numbered from 0)")
    static void promise36_anOlderVersion() {
        OpticalJukebox x = Checks.of("drive 0;platter 0 30 0;platter 1 30 0;file b 1 0;file a 3 0;close 0;");
        x.write(1, 3, 0);
        x.closeSession(0);
        Checks.due("lastGoodVersion(1), the last of two", x.lastGoodVersion(1), 1);
        x.write(1, 1, 1);
        Checks.due("lastGoodVersion(1), the last is open", x.lastGoodVersion(1), 1);
        x.markBad(0, 6);
        Checks.due("lastGoodVersion(1), the second is damaged", x.lastGoodVersion(1), 0);
        x.closeSession(1);
        Checks.due("lastGoodVersion(1), the last is closed", x.lastGoodVersion(1), 2);
        Checks.due("lastGoodVersion(0)", x.lastGoodVersion(0), 0);
    }

    // ---- promise 37

    @Sentence("NO_INDEX (platter, then sector)")
    static void promise37_noSuchPlatterOrSector() {
        OpticalJukebox x = Checks.of(Checks.THREE);
        Checks.due("fileOfSector(-1, 0)", x.fileOfSector(-1, 0), Checks.NO_INDEX);
        Checks.due("fileOfSector(3, 0)", x.fileOfSector(3, 0), Checks.NO_INDEX);
        Checks.due("fileOfSector(most, 0)", x.fileOfSector(Checks.MOST, 0), Checks.NO_INDEX);
        Checks.due("fileOfSector(0, -1)", x.fileOfSector(0, -1), Checks.NO_INDEX);
        Checks.due("fileOfSector(0, 20)", x.fileOfSector(0, 20), Checks.NO_INDEX);
        Checks.due("fileOfSector(0, 19)", x.fileOfSector(0, 19), Checks.NOT_FOUND);
        Checks.due("fileOfSector(0, most)", x.fileOfSector(0, Checks.MOST), Checks.NO_INDEX);
        Checks.due("fileOfSector(0, least)", x.fileOfSector(0, Checks.LEAST), Checks.NO_INDEX);
    }

    @Sentence("NOT_FOUND if it belongs to no version")
    static void promise37_leadOutsAndUnusedSectors() {
        OpticalJukebox x = Checks.of(Checks.THREE);
        x.write(1, 1, 0);
        Checks.due("fileOfSector(0, 0)", x.fileOfSector(0, 0), 0);
        Checks.due("fileOfSector(0, 1)", x.fileOfSector(0, 1), 0);
        Checks.due("fileOfSector(0, 2) of a lead-out", x.fileOfSector(0, 2), Checks.NOT_FOUND);
        Checks.due("fileOfSector(0, 3) of a lead-out", x.fileOfSector(0, 3), Checks.NOT_FOUND);
        Checks.due("fileOfSector(0, 4)", x.fileOfSector(0, 4), 1);
        Checks.due("fileOfSector(0, 5) unused", x.fileOfSector(0, 5), Checks.NOT_FOUND);
        Checks.due("fileOfSector(1, 2) of an old version", x.fileOfSector(1, 2), 1);
    }

    // ---- promise 38

    @Sentence("NO_INDEX")
    static void promise38_noSuchPlatter() {
        OpticalJukebox x = Checks.of(TWENTY);
        Checks.due("filesOn(-1)", x.filesOn(-1), Checks.NO_INDEX);
        Checks.due("filesOn(2)", x.filesOn(2), Checks.NO_INDEX);
        Checks.due("filesOn(least)", x.filesOn(Checks.LEAST), Checks.NO_INDEX);
        Checks.due("filesOn(most)", x.filesOn(Checks.MOST), Checks.NO_INDEX);
    }

    @Sentence("Returns how many files have their current versions on a platter")
    static void promise38_noneAndAll() {
        OpticalJukebox x = Checks.of(TWENTY);
        Checks.due("filesOn(0), all", x.filesOn(0), 20);
        Checks.due("filesOn(1), none", x.filesOn(1), 0);
        x.write(0, 1, 0);
        Checks.due("filesOn(0), a file with two versions counts once", x.filesOn(0), 20);
        x.write(0, 1, 1);
        Checks.due("filesOn(0) without one", x.filesOn(0), 19);
        Checks.due("filesOn(1)", x.filesOn(1), 1);
    }
}
