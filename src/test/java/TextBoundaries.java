import java.lang.reflect.Method;
import java.lang.reflect.Modifier;

/** The edges of promises 1 to 5: a new object, the buffer, and the text. */
final class TextBoundaries {
    private static final String TEN_PLATTERS = Checks.numbered(0, 10, "platter # 30 0;");
    private static final String TWENTY_FILES = "platter 0 300 0;" + Checks.named('a', 20, "file # 1 0;");
    private static final String TWENTY_BAD = "platter 0 30 0;" + Checks.numbered(10, 20, "bad 0 #;");
    private static final String EIGHT_SESSIONS = "platter 0 300 0;" + Checks.named('a', 8, "file # 1 0;close 0;");

    private TextBoundaries() {
    }

    // ---- promise 1

    @Sentence({"Creates a jukebox as an empty text defines it", "without a slots statement there are 12 slots"})
    static void promise01_twelveSlots() {
        OpticalJukebox x = new OpticalJukebox();
        Checks.due("platterInSlot(0)", x.platterInSlot(0), Checks.NOT_FOUND);
        Checks.due("platterInSlot(11)", x.platterInSlot(11), Checks.NOT_FOUND);
        Checks.due("platterInSlot(12)", x.platterInSlot(12), Checks.NO_INDEX);
    }

    @Sentence("Creates a jukebox as an empty text defines it")
    static void promise01_noDrivePlatterFileOrRequest() {
        OpticalJukebox x = new OpticalJukebox();
        Checks.due("platterInDrive(0)", x.platterInDrive(0), Checks.NO_INDEX);
        Checks.due("homeSlot(0)", x.homeSlot(0), Checks.NO_INDEX);
        Checks.due("versionCount(0)", x.versionCount(0), Checks.NO_INDEX);
        Checks.due("requestedFile(0)", x.requestedFile(0), Checks.NO_INDEX);
        Checks.due("writeCatalogue()", x.writeCatalogue(), 0);
    }

    @Sentence("without a time statement they are 1, 2, 5, 1 and 3")
    static void promise01_usualTimes() {
        OpticalJukebox x = new OpticalJukebox();
        Checks.due("setTimes(1, 2, 5, 1, 3)", x.setTimes(1, 2, 5, 1, 3), Checks.UNCHANGED);
        Checks.due("setTimes(1, 2, 5, 1, 4)", x.setTimes(1, 2, 5, 1, 4), 12);
    }

    @Sentence("the picker is at position 0, and the clock is 0")
    static void promise01_allCountsAreZero() {
        OpticalJukebox x = new OpticalJukebox();
        Checks.due("pickerPosition()", x.pickerPosition(), 0);
        Checks.due("clock()", x.clock(), 0);
        Checks.due("exchanges()", x.exchanges(), 0);
        Checks.due("travel()", x.travel(), 0);
    }

    @Sentence("and an empty buffer")
    static void promise01_theBufferIsEmpty() {
        OpticalJukebox x = new OpticalJukebox();
        Checks.due("load(1)", x.load(1), Checks.BAD_VALUE);
        Checks.due("load(0)", x.load(0), 0);
        Checks.due("feed", x.feed(0, 0, 0, 0, 0), 20);
    }

    /** The last of the 512 calls of an object still answers. */
    @Sentence("An object is used for at most 512 calls after it has been made")
    static void promise01_the512thCall() {
        OpticalJukebox x = new OpticalJukebox();
        // "drive 0;platter 3 10" " 0;platter 5 10 0;"
        x.feed(0x64726976, 0x6520303b, 0x706c6174, 0x74657220, 0x33203130);
        x.feed(0x20303b70, 0x6c617474, 0x65722035, 0x20313020, 0x303b2020);
        Checks.due("load(40)", x.load(40), 0);
        int calls = 3;
        int clock = 3 + 3 + 4 + 5;
        Checks.due("mount(0)", x.mount(0), clock);
        for (calls = 4; calls < 511; calls++) {
            // 0 to the one's home, to the other's home, to 0
            Checks.due("mount", x.mount(calls % 2 == 0 ? 1 : 0), 3 + 2 + 5 + 8 + 5);
            clock += 23;
        }
        Checks.due("clock() as the 512th call", x.clock(), clock);
    }

    /** No argument makes a call throw, and no answer lies under the least of the codes. */
    @Sentence({"Every method that can fail returns one of the negative constants below",
        "no other result of a method is less than -1000000"})
    static void promise01_anyArgumentsInAnyState() throws Exception {
        int[] odd = {Checks.LEAST, -1000001, -1, 0, 1, 19, 20, 300, 301, 900, Checks.MOST};
        String[] texts = {"", "drive 0;", "platter 0 10 0;", Checks.THREE, Checks.NO_DRIVES};
        for (String text : texts) {
            for (Method m : OpticalJukebox.class.getDeclaredMethods()) {
                if (Modifier.isPublic(m.getModifiers())) {
                    callWithAll(Checks.of(text), m, odd);
                }
            }
        }
    }

    private static void callWithAll(OpticalJukebox x, Method m, int[] odd) throws Exception {
        Object[] args = new Object[m.getParameterCount()];
        for (int round = 0; round < odd.length * odd.length; round++) {
            for (int i = 0; i < args.length; i++) {
                args[i] = odd[(i % 2 == 0 ? round : round / odd.length) % odd.length];
            }
            int got = (Integer) m.invoke(x, args);
            boolean fine = got > -1000000 || got <= Checks.NO_INDEX && got >= Checks.NOT_POSSIBLE;
            Checks.due(m.getName() + " answers a code of the document", fine ? 1 : 0, 1);
        }
    }

    @Sentence({"-1000001", "-1000002", "-1000003", "-1000004", "-1000005", "-1000006", "-1000007", "-1000008"})
    static void promise01_theConstants() {
        Checks.due("NO_INDEX", OpticalJukebox.NO_INDEX, Checks.NO_INDEX);
        Checks.due("BAD_VALUE", OpticalJukebox.BAD_VALUE, Checks.BAD_VALUE);
        Checks.due("FULL", OpticalJukebox.FULL, Checks.FULL);
        Checks.due("UNCHANGED", OpticalJukebox.UNCHANGED, Checks.UNCHANGED);
        Checks.due("NOT_FOUND", OpticalJukebox.NOT_FOUND, Checks.NOT_FOUND);
        Checks.due("BAD_TEXT", OpticalJukebox.BAD_TEXT, Checks.BAD_TEXT);
        Checks.due("NO_DRIVE", OpticalJukebox.NO_DRIVE, Checks.NO_DRIVE);
        Checks.due("NOT_POSSIBLE", OpticalJukebox.NOT_POSSIBLE, Checks.NOT_POSSIBLE);
    }

    // ---- promise 2

    @Sentence("Returns the number of bytes in the buffer")
    static void promise02_900BytesFit() {
        OpticalJukebox x = new OpticalJukebox();
        for (int n = 1; n <= 45; n++) {
            Checks.due("feed " + n, x.feed(0x20202020, 0x20202020, 0x20202020, 0x20202020, 0x20202020), 20 * n);
        }
        Checks.due("load(900)", x.load(900), 0);
    }

    @Sentence("FULL if there would be more than 900 (nothing is appended)")
    static void promise02_moreThan900AreRefused() {
        OpticalJukebox x = new OpticalJukebox();
        for (int n = 1; n <= 45; n++) {
            x.feed(0x20202020, 0x20202020, 0x20202020, 0x20202020, 0x20202020);
        }
        Checks.due("feed 46", x.feed(-1, -1, -1, -1, -1), Checks.FULL);
        Checks.due("feed 47", x.feed(-1, -1, -1, -1, -1), Checks.FULL);
        Checks.due("load(901)", x.load(901), Checks.BAD_VALUE);
        Checks.due("load(900) of the bytes before", x.load(900), 0);
    }

    @Sentence("FULL if there would be more than 900")
    static void promise02_roomAgainAfterALoad() {
        OpticalJukebox x = new OpticalJukebox();
        for (int n = 1; n <= 46; n++) {
            x.feed(0x20202020, 0x20202020, 0x20202020, 0x20202020, 0x20202020);
        }
        x.load(0);
        Checks.due("feed after load(0)", x.feed(0, 0, 0, 0, 0), 20);
    }

    @Sentence({"Appends 20 bytes to the buffer: the four bytes of a, then of b, c, d and e",
        "the most significant byte of each first"})
    static void promise02_eachOfThe20PlacesHasItsByte() {
        for (int place = 0; place < 20; place++) {
            int[] five = {0x20202020, 0x20202020, 0x20202020, 0x20202020, 0x20202020};
            five[place / 4] ^= (0x20 ^ 0x3b) << (24 - place % 4 * 8);
            OpticalJukebox x = new OpticalJukebox();
            x.feed(five[0], five[1], five[2], five[3], five[4]);
            Checks.due("load of a semicolon at " + place, x.load(20), Checks.BAD_TEXT);
            Checks.due("errorKind()", x.errorKind(), 2);
            Checks.due("errorPosition()", x.errorPosition(), place);
        }
    }

    /** 0xe4 is the letter d with its highest bit set; it is no letter. */
    @Sentence("Appends 20 bytes to the buffer")
    static void promise02_bytesFrom128On() {
        OpticalJukebox x = new OpticalJukebox();
        x.feed(0xe4726976, 0x6520303b, 0, 0, 0);
        Checks.due("load(8)", x.load(8), Checks.BAD_TEXT);
        Checks.due("errorKind()", x.errorKind(), 1);
        Checks.due("errorPosition()", x.errorPosition(), 0);
        x.feed(0x64726976, 0x6520303b, 0x80000000, 0, 0);
        Checks.due("load(9)", x.load(9), Checks.BAD_TEXT);
        Checks.due("errorKind()", x.errorKind(), 1);
        Checks.due("errorPosition()", x.errorPosition(), 8);
    }

    // ---- promise 3: the length and the buffer

    @Sentence("BAD_VALUE if length is out of range (the buffer keeps its bytes)")
    static void promise03_lengthBelowZero() {
        OpticalJukebox x = new OpticalJukebox();
        Checks.feedText(x, TWENTY_FILES.substring(0, 27));
        Checks.due("load(-1)", x.load(-1), Checks.BAD_VALUE);
        Checks.due("load(least)", x.load(Checks.LEAST), Checks.BAD_VALUE);
        Checks.due("load(27) of the bytes that were kept", x.load(27), 1);
    }

    @Sentence("BAD_VALUE if length is out of range (the buffer keeps its bytes)")
    static void promise03_lengthAboveTheBuffer() {
        OpticalJukebox x = new OpticalJukebox();
        Checks.feedText(x, TWENTY_FILES.substring(0, 27));
        Checks.due("load(41) of 40 bytes", x.load(41), Checks.BAD_VALUE);
        Checks.due("load(most)", x.load(Checks.MOST), Checks.BAD_VALUE);
        Checks.due("feed behind the bytes that were kept", x.feed(0, 0, 0, 0, 0), 60);
        Checks.due("load(27) of the bytes that were kept", x.load(27), 1);
    }

    @Sentence("number of bytes of the text, 0 to the number of bytes in the buffer")
    static void promise03_lengthZero() {
        OpticalJukebox x = Checks.of(Checks.THREE);
        Checks.feedText(x, "???");
        Checks.due("load(0) of 20 bytes", x.load(0), 0);
        Checks.due("homeSlot(0)", x.homeSlot(0), Checks.NO_INDEX);
        Checks.due("load(1) of the emptied buffer", x.load(1), Checks.BAD_VALUE);
        Checks.due("load(0) of an empty buffer", x.load(0), 0);
    }

    @Sentence("number of bytes of the text, 0 to the number of bytes in the buffer")
    static void promise03_lengthOfTheWholeBuffer() {
        OpticalJukebox x = new OpticalJukebox();
        Checks.feedText(x, "drive 0;drive 1;    ");
        Checks.due("load(20)", x.load(20), 0);
        Checks.due("platterInDrive(1)", x.platterInDrive(1), Checks.NOT_FOUND);
    }

    @Sentence("Reads a text from the first bytes of the buffer")
    static void promise03_whatLiesBehindTheTextIsNotRead() {
        OpticalJukebox x = new OpticalJukebox();
        Checks.feedText(x, "drive 1;drive 2;");
        Checks.due("load(8)", x.load(8), 0);
        Checks.due("platterInDrive(0)", x.platterInDrive(0), Checks.NOT_FOUND);
        Checks.due("platterInDrive(1)", x.platterInDrive(1), Checks.NO_INDEX);
        Checks.feedText(x, "slots 12345;");
        Checks.due("load(8) in the middle of a number", x.load(8), Checks.BAD_TEXT);
        Checks.due("errorKind(): 12 slots, and no semicolon", x.errorKind(), 2);
        Checks.due("errorPosition()", x.errorPosition(), 8);
    }

    @Sentence("empties the buffer")
    static void promise03_theBufferIsEmptyAfterALegalText() {
        OpticalJukebox x = Checks.of("drive 1;");
        Checks.due("load(1)", x.load(1), Checks.BAD_VALUE);
        Checks.due("feed", x.feed(0, 0, 0, 0, 0), 20);
    }

    @Sentence("load() empties the buffer and stores the error of the text")
    static void promise03_theBufferIsEmptyAfterAWrongText() {
        OpticalJukebox x = new OpticalJukebox();
        Checks.due("load of x", Checks.loadText(x, "x"), Checks.BAD_TEXT);
        Checks.due("load(1)", x.load(1), Checks.BAD_VALUE);
        Checks.due("feed", x.feed(0, 0, 0, 0, 0), 20);
        Checks.due("errorKind()", x.errorKind(), 2);
    }

    @Sentence("BAD_TEXT if the text is not legal (the current jukebox stays)")
    static void promise03_theJukeboxStaysAfterAWrongText() {
        OpticalJukebox x = Checks.of(Checks.THREE);
        x.mount(1);
        x.write(0, 2, 2);
        x.request(1);
        String before = Checks.picture(x);
        String wrong = "slots 5;drive 0;platter 1 30 0;file a 1 0;close 0;file b 9 0;x";
        Checks.due("load", Checks.loadText(x, wrong), Checks.BAD_TEXT);
        Checks.same("after BAD_TEXT", Checks.picture(x), before);
        Checks.due("undo()", x.undo(), 2);
    }

    @Sentence("A failing call changes nothing")
    static void promise03_theJukeboxStaysAfterABadLength() {
        OpticalJukebox x = Checks.of(Checks.THREE);
        x.mount(1);
        x.request(1);
        String before = Checks.picture(x);
        Checks.due("load(1)", x.load(1), Checks.BAD_VALUE);
        Checks.same("after BAD_VALUE", Checks.picture(x), before);
        Checks.due("undo()", x.undo(), 1);
    }

    @Sentence("Returns the number of files")
    static void promise03_noFileAnd20Files() {
        Checks.legal("", 0);
        Checks.legal("platter 0 10 0;", 0);
        Checks.legal("platter 0 10 0;file a 1 0;", 1);
        Checks.legal(TWENTY_FILES, 20);
    }

    @Sentence("Loading takes no time")
    static void promise03_loadingTakesNoTime() {
        OpticalJukebox x = Checks.of(Checks.THREE);
        Checks.due("clock()", x.clock(), 0);
        Checks.due("travel()", x.travel(), 0);
        Checks.due("exchanges()", x.exchanges(), 0);
        Checks.due("platterInDrive(0)", x.platterInDrive(0), Checks.NOT_FOUND);
    }

    /** The rows of a state are used again by later loads, so each of several loads must begin anew. */
    @Sentence("At first all platters are in their home slots, the picker is at position 0, and the clock is 0")
    static void promise03_eachLoadBeginsAnew() {
        String fresh = Checks.picture(Checks.of(Checks.THREE));
        OpticalJukebox x = Checks.of(Checks.THREE);
        for (int n = 0; n < 3; n++) {
            x.read(2);
            x.mount(1);
            x.write(0, 3, 0);
            x.markBad(0, 5);
            x.markBad(2, 0);
            x.create(4, 2);
            x.request(1);
            x.setTimes(9, 9, 9, 9, 9);
            Checks.due("load " + n, Checks.loadText(x, Checks.THREE), 3);
            Checks.same("after load " + n, Checks.picture(x), fresh);
        }
    }

    @Sentence({"number of bytes of the text, 0 to the number of bytes in the buffer", "without a slots statement there are 12 slots"})
    static void promise03_anEmptyTextAfterAnother() {
        OpticalJukebox x = Checks.of("slots 24;drive 3;drive 4;" + TWENTY_FILES);
        x.request(0);
        x.load(0);
        x.load(0);
        x.load(0);
        Checks.due("platterInSlot(12)", x.platterInSlot(12), Checks.NO_INDEX);
        Checks.due("platterInDrive(0)", x.platterInDrive(0), Checks.NO_INDEX);
        Checks.due("homeSlot(0)", x.homeSlot(0), Checks.NO_INDEX);
        Checks.due("versionCount(0)", x.versionCount(0), Checks.NO_INDEX);
        Checks.due("requestedFile(0)", x.requestedFile(0), Checks.NO_INDEX);
    }

    @Sentence("there are at most 20 bad sectors in the jukebox")
    static void promise03_twentyBadSectorsInEachText() {
        OpticalJukebox x = new OpticalJukebox();
        for (int n = 0; n < 4; n++) {
            Checks.due("load " + n, Checks.loadText(x, TWENTY_BAD), 0);
            Checks.due("sectorKind(0, 9)", x.sectorKind(0, 9), 0);
        }
        Checks.due("load", Checks.loadText(x, "platter 0 30 0;"), 0);
        Checks.due("sectorKind(0, 10) of a text without bad sectors", x.sectorKind(0, 10), 0);
    }

    @Sentence("A version is damaged if one of its sectors became bad after it had been written")
    static void promise03_noDamageFromTheTextBefore() {
        OpticalJukebox x = new OpticalJukebox();
        for (int n = 0; n < 4; n++) {
            Checks.loadText(x, "platter 0 30 0;file a 3 0;bad 0 1;close 0;");
            Checks.due("fileState(0) of the damaged one", x.fileState(0), 1);
            if (n % 2 == 0) {
                Checks.loadText(x, "platter 0 30 0;file a 3 0;close 0;");
                Checks.due("fileState(0) of the other one", x.fileState(0), 0);
            }
        }
        Checks.loadText(x, "platter 0 30 0;file a 3 0;close 0;");
        Checks.loadText(x, "platter 0 30 0;file a 3 0;close 0;");
        Checks.due("fileState(0)", x.fileState(0), 0);
    }

    /** What a wrong text left behind is not seen by the next text. */
    @Sentence("BAD_TEXT if the text is not legal (the current jukebox stays)")
    static void promise03_aLegalTextAfterAWrongOne() {
        OpticalJukebox x = new OpticalJukebox();
        Checks.due("load", Checks.loadText(x, TWENTY_FILES.replace("platter", "drive 1;drive 2;platter") + "x"), Checks.BAD_TEXT);
        Checks.due("load", Checks.loadText(x, Checks.THREE), 3);
        Checks.same("after the wrong text", Checks.picture(x), Checks.picture(Checks.of(Checks.THREE)));
    }

    // ---- promise 3: tokens

    @Sentence("The text has at most 900 bytes")
    static void promise03_aTextOf900Bytes() {
        String text = TWENTY_FILES;
        Checks.legal(text + " ".repeat(899 - text.length()) + "\n", 20);
        Checks.legal(" ".repeat(900 - text.length()) + text, 20);
    }

    @Sentence("words (1 to 8 lower-case letters)")
    static void promise03_wordsOf1To8Letters() {
        Checks.legal("platter 0 10 0;file a 1 0;file abcdefgh 1 0;file zzzzzzzz 1 0;", 3);
        Checks.error("platter 0 10 0;file abcdefghi 1 0;", 1, 20);
    }

    @Sentence("numbers (1 to 5 digits)")
    static void promise03_numbersOf1To5Digits() {
        Checks.legal("drive 0;drive 00009;drive 00000;", 0);
        Checks.error("drive 99999;", 3, 6);
        Checks.error("drive 000009;", 1, 6);
        Checks.error("drive 00000000000000000001;", 1, 6);
    }

    @Sentence("A token extends as far as possible")
    static void promise03_tokensWithoutBlanks() {
        Checks.legal("slots10;drive9;platter9 10 0;file a1 0;close0;", 1);
        Checks.error("slots1 0;", 3, 5);
        Checks.error("platter 0 10 0;file ab cd 1 0;", 2, 23);
        Checks.error("drivedriv 1;", 1, 0);
    }

    @Sentence("Spaces (32) and line feeds (10) may stand before the first token, between tokens and behind the last token")
    static void promise03_blanksEverywhereAndNowhere() {
        Checks.legal(" ", 0);
        Checks.legal("\n", 0);
        Checks.legal(" \n \n\nslots\n4 \n;\n drive\n\n 3\n;\n \n", 0);
        Checks.legal("slots 4;drive 3;", 0);
    }

    @Sentence("A longer run of letters, a longer run of digits and any other byte are illegal tokens")
    static void promise03_eachByteAlone() {
        for (int b = 0; b < 256; b++) {
            String text = String.valueOf((char) b);
            if (b == ' ' || b == '\n') {
                Checks.legal(text, 0);
            } else {
                boolean known = b == ';' || b >= '0' && b <= '9' || b >= 'a' && b <= 'z';
                Checks.error(text, known ? 2 : 1, 0);
            }
        }
    }

    @Sentence("any other byte are illegal tokens")
    static void promise03_theBytesBesideLettersAndDigits() {
        for (char b : new char[] {'`', '{', '/', ':', 'A', 'Z', '\t', '\r', 11, 31, 33, 0, 127, 128, 255}) {
            Checks.error("drive 1" + b + ";", 1, 7);
            Checks.error("drive" + b + "1;", 1, 5);
        }
    }

    @Sentence("Each statement ends with a semicolon")
    static void promise03_noSemicolonAndTwo() {
        Checks.error("drive 1", 2, 7);
        Checks.error("drive 1 drive 2;", 2, 8);
        Checks.error("drive 1;;", 2, 8);
        Checks.error(";", 2, 0);
    }

    // ---- promise 3: statements

    @Sentence("A NAME is a word that is not reserved")
    static void promise03_reservedNames() {
        for (String word : new String[] {"slots", "drive", "time", "platter", "bad", "file", "close"}) {
            Checks.error("platter 0 10 0;file " + word + " 1 0;", 2, 20);
        }
        Checks.legal("platter 0 10 0;file slot 1 0;file drives 1 0;file tim 1 0;file platters 1 0;file ba 1 0;"
                + "file files 1 0;file closed 1 0;file badd 1 0;", 8);
    }

    @Sentence("The words slots, drive, time, platter, bad, file and close are reserved")
    static void promise03_wordsThatDifferByALetter() {
        for (String word : new String[] {"slots", "drive", "time", "platter", "bad", "file", "close"}) {
            for (int at = 0; at < word.length(); at++) {
                String other = word.substring(0, at) + "x" + word.substring(at + 1);
                Checks.error(other + " 1", 2, 0);
                Checks.legal("platter 0 10 0;file " + other + " 1 0;", 1);
            }
        }
    }

    @Sentence("no two files have the same name")
    static void promise03_theSameName() {
        Checks.error("platter 0 10 0;file a 1 0;file a 1 0;", 4, 31);
        Checks.error("platter 0 10 0;file aaaaaaaa 1 0;file b 1 0;file aaaaaaaa 1 0;", 4, 49);
        Checks.legal("platter 0 20 0;file a 1 0;file aa 1 0;file ab 1 0;file ba 1 0;file aaaaaaaa 1 0;"
                + "file aaaaaaab 1 0;file baaaaaaa 1 0;file aaaaaaa 1 0;", 8);
    }

    @Sentence("COUNT is 4 to 24")
    static void promise03_fewestAndMostSlots() {
        Checks.error("slots 3;", 3, 6);
        Checks.error("slots 0;", 3, 6);
        Checks.error("slots 25;", 3, 6);
        OpticalJukebox x = Checks.of("slots 4;");
        Checks.due("platterInSlot(3)", x.platterInSlot(3), Checks.NOT_FOUND);
        Checks.due("platterInSlot(4)", x.platterInSlot(4), Checks.NO_INDEX);
        x = Checks.of("slots 24;");
        Checks.due("platterInSlot(23)", x.platterInSlot(23), Checks.NOT_FOUND);
        Checks.due("platterInSlot(24)", x.platterInSlot(24), Checks.NO_INDEX);
    }

    @Sentence("without a slots statement there are 12 slots")
    static void promise03_noSlotsStatement() {
        OpticalJukebox x = Checks.of("slots 24;");
        Checks.due("load", Checks.loadText(x, "drive 11;platter 11 10 0;"), 0);
        Checks.due("platterInSlot(11)", x.platterInSlot(11), 0);
        Checks.due("platterInSlot(12)", x.platterInSlot(12), Checks.NO_INDEX);
        Checks.error("drive 12;", 3, 6);
        Checks.error("platter 12 10 0;", 3, 8);
    }

    @Sentence("A slots statement must be the first statement of the text")
    static void promise03_slotsIsTheFirstStatement() {
        Checks.legal(" \n slots 4;", 0);
        Checks.error("slots 4;slots 4;", 5, 8);
        Checks.error("drive 0;slots 4;", 5, 8);
        Checks.error("time 1 1 1 1 1;slots 99", 5, 15);
    }

    @Sentence("A drive statement adds a drive at a POSITION, 0 to COUNT - 1")
    static void promise03_drivePositions() {
        Checks.legal("slots 4;drive 0;drive 3;", 0);
        Checks.error("slots 4;drive 4;", 3, 14);
        Checks.legal("slots 24;drive 23;", 0);
        Checks.error("slots 24;drive 24;", 3, 15);
    }

    @Sentence("There are at most 4 drives, numbered from 0; several drives can be at one position")
    static void promise03_fourDrives() {
        OpticalJukebox x = Checks.of("drive 5;".repeat(4));
        Checks.due("platterInDrive(3)", x.platterInDrive(3), Checks.NOT_FOUND);
        Checks.due("platterInDrive(4)", x.platterInDrive(4), Checks.NO_INDEX);
        Checks.error("drive 5;".repeat(5), 5, 32);
    }

    @Sentence("MOVE, GRIP, SPIN, READ and WRITE are times, 0 to 99 each")
    static void promise03_eachTimeFrom0To99() {
        for (int i = 0; i < 5; i++) {
            String[] times = {"7", "7", "7", "7", "7"};
            times[i] = "99";
            Checks.legal("time " + String.join(" ", times) + ";", 0);
            times[i] = "0";
            Checks.legal("time " + String.join(" ", times) + ";", 0);
            times[i] = "100";
            Checks.error("time " + String.join(" ", times) + ";", 3, 5 + 2 * i);
        }
        Checks.error("time 1 2 3 4;", 2, 12);
        Checks.error("time 1 2 3 4 5 6;", 2, 15);
    }

    @Sentence("If there are several time statements, the last one counts")
    static void promise03_severalTimeStatements() {
        OpticalJukebox x = Checks.of("time 9 8 7 6 5;time 0 99 1 2 3;drive 0;");
        Checks.due("setTimes of the last", x.setTimes(0, 99, 1, 2, 3), Checks.UNCHANGED);
    }

    @Sentence("SLOT (0 to COUNT - 1, not the home slot of an earlier platter)")
    static void promise03_homeSlots() {
        Checks.legal("slots 4;platter 0 10 0;platter 3 10 0;", 0);
        Checks.error("slots 4;platter 4 10 0;", 3, 16);
        Checks.error("slots 4;platter 3 10 0;platter 3 10 0;", 4, 31);
        Checks.error("slots 4;platter 0 10 0;platter 1 10 0;platter 2 10 0;platter 0 10 0;", 4, 61);
    }

    @Sentence("CAPACITY sectors (10 to 300)")
    static void promise03_capacities() {
        Checks.error("platter 0 9 0;", 3, 10);
        Checks.error("platter 0 301 0;", 3, 10);
        OpticalJukebox x = Checks.of("platter 0 10 0;platter 1 300 0;");
        Checks.due("freeSectors(0)", x.freeSectors(0), 10);
        Checks.due("freeSectors(1)", x.freeSectors(1), 300);
    }

    @Sentence("SPARES spare sectors (0 to 9)")
    static void promise03_spares() {
        Checks.error("platter 0 10 10;", 3, 13);
        OpticalJukebox x = Checks.of("platter 0 10 0;platter 1 10 9;");
        Checks.due("sparesLeft(0)", x.sparesLeft(0), 0);
        Checks.due("sparesLeft(1)", x.sparesLeft(1), 9);
    }

    @Sentence("There are at most 10 platters, numbered from 0")
    static void promise03_tenPlatters() {
        OpticalJukebox x = Checks.of(TEN_PLATTERS);
        Checks.due("homeSlot(9)", x.homeSlot(9), 9);
        Checks.due("homeSlot(10)", x.homeSlot(10), Checks.NO_INDEX);
        Checks.error(TEN_PLATTERS + "platter 10 30 0;", 5, TEN_PLATTERS.length());
    }

    @Sentence("PLATTER is the number of an earlier platter")
    static void promise03_noSuchPlatter() {
        Checks.error("bad 0 0;", 3, 4);
        Checks.error("file a 1 0;", 3, 9);
        Checks.error("close 0;", 3, 6);
        Checks.error("platter 0 10 0;bad 1 0;platter 1 10 0;", 3, 19);
        Checks.error("platter 0 10 0;file a 1 1;", 3, 24);
        Checks.error("platter 0 10 0;file a 1 0;close 1;", 3, 32);
        Checks.legal("platter 0 10 0;platter 1 10 0;bad 1 0;file a 1 0;close 0;", 1);
    }

    @Sentence("A bad statement marks a sector (0 to CAPACITY - 1) of a platter as bad")
    static void promise03_badSectors() {
        Checks.error("platter 0 10 0;bad 0 10;", 3, 21);
        Checks.error("platter 0 300 0;bad 0 300;", 3, 22);
        OpticalJukebox x = Checks.of("platter 0 10 0;bad 0 0;bad 0 9;platter 1 300 0;bad 1 299;");
        Checks.due("sectorKind(0, 0)", x.sectorKind(0, 0), 10);
        Checks.due("sectorKind(0, 9)", x.sectorKind(0, 9), 10);
        Checks.due("sectorKind(0, 8)", x.sectorKind(0, 8), 0);
        Checks.due("sectorKind(1, 299)", x.sectorKind(1, 299), 10);
    }

    @Sentence("there are at most 20 bad sectors in the jukebox")
    static void promise03_twentyBadSectors() {
        Checks.legal(TWENTY_BAD, 0);
        Checks.error(TWENTY_BAD + "bad 0 9;", 5, TWENTY_BAD.length());
        String two = "platter 0 30 0;platter 1 30 0;" + Checks.numbered(10, 10, "bad 0 #;bad 1 #;");
        Checks.legal(two, 0);
        Checks.error(two + "bad 1 0;", 5, two.length());
    }

    @Sentence("each sector is marked once at most")
    static void promise03_theSameBadSector() {
        Checks.error("platter 0 10 0;bad 0 3;bad 0 3;", 4, 29);
        Checks.error("platter 0 10 0;bad 0 0;bad 0 00;", 4, 29);
        Checks.legal("platter 0 10 0;platter 1 10 0;bad 0 3;bad 1 3;bad 0 4;", 0);
    }

    @Sentence("a first version of SIZE sectors (1 to 300)")
    static void promise03_fileSizes() {
        Checks.error("platter 0 300 0;file a 0 0;", 3, 23);
        Checks.error("platter 0 300 0;file a 301 0;", 3, 23);
        Checks.legal("platter 0 300 0;file a 1 0;file b 299 0;", 2);
        Checks.legal("platter 0 300 0;file a 300 0;", 1);
    }

    @Sentence("There are at most 20 files, numbered from 0")
    static void promise03_twentyFiles() {
        Checks.legal(TWENTY_FILES, 20);
        Checks.error(TWENTY_FILES + "file u 1 0;", 5, TWENTY_FILES.length());
    }

    @Sentence("SIZE is greater than CAPACITY minus the end")
    static void promise03_aFileThatIsTooLarge() {
        Checks.legal("platter 0 10 0;file a 10 0;", 1);
        Checks.error("platter 0 10 0;file a 11 0;", 6, 25);
        Checks.legal("platter 0 10 0;file a 4 0;file b 6 0;", 2);
        Checks.error("platter 0 10 0;file a 4 0;file b 7 0;", 6, 35);
        Checks.legal("platter 0 10 0;file a 4 0;close 0;file b 4 0;", 2);
        Checks.error("platter 0 10 0;file a 4 0;close 0;file b 5 0;", 6, 43);
    }

    @Sentence("if a new session is needed and there are 8 sessions")
    static void promise03_aNinthSession() {
        Checks.legal(EIGHT_SESSIONS, 8);
        Checks.error(EIGHT_SESSIONS + "file z 1 0;", 6, EIGHT_SESSIONS.length() + 9);
        String open = EIGHT_SESSIONS.substring(0, EIGHT_SESSIONS.length() - 8);
        Checks.legal(open + "file z 1 0;", 9);
    }

    @Sentence("if there are more bad sectors among these sectors than the platter has spare sectors left")
    static void promise03_moreBadSectorsThanSpares() {
        Checks.legal("platter 0 10 0;bad 0 3;file a 3 0;", 1);
        Checks.error("platter 0 10 0;bad 0 3;file a 4 0;", 6, 32);
        Checks.error("platter 0 10 0;bad 0 0;file a 1 0;", 6, 32);
        Checks.legal("platter 0 10 2;bad 0 3;bad 0 4;file a 5 0;", 1);
        Checks.error("platter 0 10 2;bad 0 3;bad 0 4;bad 0 5;file a 6 0;", 6, 48);
        Checks.error("platter 0 10 1;bad 0 3;bad 0 4;file a 4 0;file b 1 0;", 6, 51);
    }

    @Sentence("Closing the open session adds a lead-out of 2 sectors to it, or of 1 or 0 sectors if no more are left")
    static void promise03_leadOutsOf2And1And0() {
        OpticalJukebox x = Checks.of("platter 0 10 0;platter 1 10 0;platter 2 10 0;"
                + "file a 8 0;file b 9 1;file c 10 2;close 0;close 1;close 2;");
        for (int p = 0; p < 3; p++) {
            Checks.due("sessionSize(" + p + ", 0)", x.sessionSize(p, 0), 10);
            Checks.due("freeSectors(" + p + ")", x.freeSectors(p), 0);
            Checks.due("hasOpenSession(" + p + ")", x.hasOpenSession(p), 0);
        }
    }

    @Sentence("Bad sectors in a lead-out do not matter")
    static void promise03_badSectorsInALeadOut() {
        OpticalJukebox x = Checks.of("platter 0 10 1;bad 0 3;bad 0 4;file a 3 0;close 0;bad 0 5;");
        Checks.due("sparesLeft(0)", x.sparesLeft(0), 1);
        Checks.due("fileState(0)", x.fileState(0), 0);
        Checks.due("sectorKind(0, 4)", x.sectorKind(0, 4), 13);
    }

    @Sentence("A version is damaged if one of its sectors became bad after it had been written")
    static void promise03_badBeforeAndAfterTheFile() {
        OpticalJukebox x = Checks.of("platter 0 10 1;bad 0 0;file a 3 0;file b 3 0;bad 0 3;close 0;");
        Checks.due("fileState(0), bad before it", x.fileState(0), 0);
        Checks.due("remappedSectors(0)", x.remappedSectors(0), 1);
        Checks.due("fileState(1), bad after it", x.fileState(1), 1);
        Checks.due("remappedSectors(1)", x.remappedSectors(1), 0);
    }

    // ---- promise 4

    @Sentence("0 if it had none or there was no such load()")
    static void promise04_noLoadYet() {
        OpticalJukebox x = new OpticalJukebox();
        Checks.due("errorKind()", x.errorKind(), 0);
        x.load(5);
        Checks.due("errorKind() after BAD_VALUE alone", x.errorKind(), 0);
    }

    @Sentence("0 if it had none or there was no such load()")
    static void promise04_aLegalTextAfterAnError() {
        OpticalJukebox x = new OpticalJukebox();
        Checks.loadText(x, "drive 12;");
        Checks.due("errorKind()", x.errorKind(), 3);
        x.load(0);
        Checks.due("errorKind() after a legal text", x.errorKind(), 0);
    }

    @Sentence("Returns the kind of the error of the latest load() that did not return BAD_VALUE")
    static void promise04_keptWhenTheLengthIsOutOfRange() {
        OpticalJukebox x = new OpticalJukebox();
        Checks.loadText(x, "drive 12;");
        Checks.due("load(1)", x.load(1), Checks.BAD_VALUE);
        Checks.due("errorKind()", x.errorKind(), 3);
        Checks.loadText(x, "drive ,");
        Checks.due("errorKind() of the latest", x.errorKind(), 1);
    }

    @Sentence("1 illegal token")
    static void promise04_kind1() {
        Checks.error("abcdefghi", 1, 0);
        Checks.error("123456", 1, 0);
        Checks.error("drive 1.", 1, 7);
    }

    @Sentence("2 another token was expected")
    static void promise04_kind2() {
        Checks.error("abcdefgh", 2, 0);
        Checks.error("12345", 2, 0);
        Checks.error("drive drive;", 2, 6);
        Checks.error("platter 0 10 0;file 1 1 0;", 2, 20);
        Checks.error("platter 0 10 0;file ; 1 0;", 2, 20);
    }

    @Sentence("3 a number is out of range (a PLATTER that does not exist, too)")
    static void promise04_kind3() {
        Checks.error("slots 99999;", 3, 6);
        Checks.error("platter 0 10 0;close 99999;", 3, 21);
    }

    @Sentence("4 the NAME of an earlier file, a SLOT that is a home slot already, or a SECTOR that is marked already")
    static void promise04_kind4() {
        Checks.error("platter 0 10 0;file a 1 0;file a", 4, 31);
        Checks.error("platter 0 10 0;platter 0", 4, 23);
        Checks.error("platter 0 10 0;bad 0 1;bad 0 1", 4, 29);
    }

    @Sentence("5 a slots statement that is not the first statement, or the fifth drive, the 11th platter, "
            + "the 21st bad sector or the 21st file")
    static void promise04_kind5() {
        Checks.error("drive 0;slots", 5, 8);
        Checks.error("drive 0;".repeat(4) + "drive", 5, 32);
        Checks.error(TEN_PLATTERS + "platter", 5, TEN_PLATTERS.length());
        Checks.error(TWENTY_BAD + "bad", 5, TWENTY_BAD.length());
        Checks.error(TWENTY_FILES + "file", 5, TWENTY_FILES.length());
    }

    @Sentence("6 a file that cannot be written on the PLATTER, or a PLATTER without an open session in a close statement")
    static void promise04_kind6() {
        Checks.error("platter 0 10 0;file a 11 0", 6, 25);
        Checks.error("platter 0 10 0;close 0", 6, 21);
        Checks.error("platter 0 10 0;file a 1 0;close 0;close 0", 6, 40);
    }

    @Sentence("If two kinds apply to one token, the smaller kind is reported")
    static void promise04_theSmallerOfTwoKinds() {
        Checks.error("drive 100000;", 1, 6);
        Checks.error("drive abcdefghi;", 1, 6);
        Checks.error("drive 1 123456;", 1, 8);
        Checks.error("drive 1;123456;", 1, 8);
        Checks.error("drive slots;", 2, 6);
        Checks.error("platter 0 10 0;file drive 1 0;", 2, 20);
        Checks.error("platter 0 10 0;file a 300 1;", 3, 26);
        Checks.error("platter 0 10 0;close 1;", 3, 21);
    }

    // ---- promise 5

    @Sentence("NOT_FOUND if errorKind() is 0")
    static void promise05_noError() {
        OpticalJukebox x = new OpticalJukebox();
        Checks.due("errorPosition() of a new object", x.errorPosition(), Checks.NOT_FOUND);
        Checks.loadText(x, "x");
        Checks.due("errorPosition() at the first byte", x.errorPosition(), 0);
        x.load(0);
        Checks.due("errorPosition() after a legal text", x.errorPosition(), Checks.NOT_FOUND);
    }

    @Sentence("Returns the position of that error in the text")
    static void promise05_keptWhenTheLengthIsOutOfRange() {
        OpticalJukebox x = new OpticalJukebox();
        Checks.loadText(x, "drive 12;");
        x.load(-1);
        Checks.due("errorPosition()", x.errorPosition(), 6);
    }

    @Sentence("if the text ends too early, the error is at the end and its position is the length of the text")
    static void promise05_theTextEndsTooEarly() {
        Checks.error("drive", 2, 5);
        Checks.error("drive 1", 2, 7);
        Checks.error("drive 1 \n ", 2, 10);
        Checks.error("platter 0 10 0;file", 2, 19);
        Checks.error("platter 0 10 0;file a", 2, 21);
        Checks.error("drive" + " ".repeat(895), 2, 900);
    }

    @Sentence("The error of a text is its first token, from left to right, that cannot be continued to a legal text")
    static void promise05_theFirstOfSeveralErrors() {
        Checks.error("drive 12;slots 3;", 3, 6);
        Checks.error("slots 3 ?", 3, 6);
        Checks.error("\n\n  drive   \n 12;", 3, 14);
        Checks.error("platter 0 9 10;", 3, 10);
    }

    @Sentence("(the position is that of the statement's first word)")
    static void promise05_kind5IsAtTheFirstWord() {
        Checks.error("drive 0; \n slots 3;", 5, 11);
        Checks.error("drive 0;".repeat(4) + " drive 99;", 5, 33);
        Checks.error(TWENTY_FILES + "\nfile a 0 9;", 5, TWENTY_FILES.length() + 1);
    }

    @Sentence("(the position is that of PLATTER)")
    static void promise05_kind6IsAtThePlatter() {
        Checks.error("platter 0 10 0;file a  11   0;", 6, 28);
        Checks.error("platter 0 10 0;close\n 000;", 6, 22);
    }

    @Sentence("Returns the position of that error in the text")
    static void promise05_theLastByteOf900() {
        Checks.error(" ".repeat(899) + "?", 1, 899);
        Checks.error(" ".repeat(899) + ";", 2, 899);
    }
}
