/** What the boundary tests share: texts, comparisons, and a picture of a whole jukebox. */
final class Checks {
    static final int NO_INDEX = -1000001;
    static final int BAD_VALUE = -1000002;
    static final int FULL = -1000003;
    static final int UNCHANGED = -1000004;
    static final int NOT_FOUND = -1000005;
    static final int BAD_TEXT = -1000006;
    static final int NO_DRIVE = -1000007;
    static final int NOT_POSSIBLE = -1000008;
    static final int LEAST = Integer.MIN_VALUE;
    static final int MOST = Integer.MAX_VALUE;

    /**
     * Two drives, at 1 and 8; three platters with the homes 0, 4 and 9, each with a file in a
     * closed session: a has 2 sectors, b has 3, c has 5. The times are 2 3 7 4 5.
     */
    static final String THREE = "slots 10;drive 1;drive 8;time 2 3 7 4 5;"
            + "platter 0 20 2;platter 4 50 0;platter 9 30 1;"
            + "file a 2 0;close 0;file b 3 1;close 1;file c 5 2;close 2;";

    /** The same without drives, and with an open session on the first platter. */
    static final String NO_DRIVES = "slots 10;platter 0 20 2;platter 4 50 0;file a 2 0;close 0;file b 3 0;";

    private static String test = "";
    private static int checks;
    private static int wrong;

    private Checks() {
    }

    static void begin(String name) {
        test = name;
        checks = 0;
    }

    static int checksOfTheTest() {
        return checks;
    }

    static int wrongInAll() {
        return wrong;
    }

    static void fail(String what) {
        wrong++;
        System.out.println(test + ": " + what);
    }

    static void due(String call, int got, int want) {
        checks++;
        if (got != want) {
            fail(call + " answered " + got + ", due is " + want);
        }
    }

    static void same(String what, String got, String want) {
        checks++;
        if (!got.equals(want)) {
            fail(what + ": it is\n" + got + "and should be\n" + want);
        }
    }

    static void feedText(OpticalJukebox x, String text) {
        for (int at = 0; at < text.length(); at += 20) {
            int[] five = new int[5];
            for (int i = 0; i < 20; i++) {
                int sign = at + i < text.length() ? text.charAt(at + i) : '?';
                five[i / 4] = five[i / 4] << 8 | sign;
            }
            x.feed(five[0], five[1], five[2], five[3], five[4]);
        }
    }

    static int loadText(OpticalJukebox x, String text) {
        feedText(x, text);
        return x.load(text.length());
    }

    static OpticalJukebox of(String text) {
        OpticalJukebox x = new OpticalJukebox();
        if (loadText(x, text) < 0) {
            fail("not legal, kind " + x.errorKind() + " at " + x.errorPosition() + ": " + text);
        }
        return x;
    }

    static void legal(String text, int files) {
        OpticalJukebox x = new OpticalJukebox();
        due("load of " + text, loadText(x, text), files);
        due("errorKind() of " + text, x.errorKind(), 0);
        due("errorPosition() of " + text, x.errorPosition(), NOT_FOUND);
    }

    static void error(String text, int kind, int position) {
        OpticalJukebox x = new OpticalJukebox();
        due("load of " + text, loadText(x, text), BAD_TEXT);
        due("errorKind() of " + text, x.errorKind(), kind);
        due("errorPosition() of " + text, x.errorPosition(), position);
    }

    /** The statement once for each name from first on, in place of the sign #. */
    static String named(char first, int count, String statement) {
        StringBuilder all = new StringBuilder();
        for (int i = 0; i < count; i++) {
            all.append(statement.replace('#', (char) (first + i)));
        }
        return all.toString();
    }

    /** The statement once for each number from first on, in place of the sign #. */
    static String numbered(int first, int count, String statement) {
        StringBuilder all = new StringBuilder();
        for (int i = 0; i < count; i++) {
            all.append(statement.replace("#", Integer.toString(first + i)));
        }
        return all.toString();
    }

    static String catalogue(OpticalJukebox x) {
        int length = x.writeCatalogue();
        StringBuilder told = new StringBuilder();
        for (int i = 0; i < length; i++) {
            told.append((char) x.outputByte(i));
        }
        return told.toString();
    }

    /** Some sixty questions, so that a run with two or three pictures keeps within 512 calls. */
    static String picture(OpticalJukebox x) {
        StringBuilder all = new StringBuilder();
        for (int p = 0; p < 3; p++) {
            put(all, x.homeSlot(p), x.driveOf(p), x.chosenDrive(p), x.mountTime(p), x.freeSectors(p));
            put(all, x.sessionCount(p), x.hasOpenSession(p), x.sparesLeft(p), x.staleSectors(p), x.cleanRun(p));
        }
        for (int f = 0; f < 4; f++) {
            put(all, x.versionCount(f), x.filePlatter(f), x.fileStart(f), x.fileState(f), x.readTime(f));
        }
        put(all, x.pickerPosition(), x.clock(), x.exchanges(), x.travel(), x.bestPlatter(1));
        put(all, x.requestedFile(0), x.requestedFile(1), x.requestedFile(2), x.batchTime(), x.oneByOneTime());
        return all.toString();
    }

    private static void put(StringBuilder all, int a, int b, int c, int d, int e) {
        all.append(a).append(' ').append(b).append(' ').append(c).append(' ').append(d).append(' ').append(e).append('\n');
    }
}
