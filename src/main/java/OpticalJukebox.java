import java.util.Arrays;

/**
 * A simulator of an optical jukebox: write-once platters in slots, a picker that carries them to
 * drives, files that are written in sessions and read in batches. The document DOC.md tells what
 * every method answers.
 */
public final class OpticalJukebox {
    public static final int NO_INDEX = -1000001;
    public static final int BAD_VALUE = -1000002;
    public static final int FULL = -1000003;
    public static final int UNCHANGED = -1000004;
    public static final int NOT_FOUND = -1000005;
    public static final int BAD_TEXT = -1000006;
    public static final int NO_DRIVE = -1000007;
    public static final int NOT_POSSIBLE = -1000008;

    private static final int MOST_BYTES = 900;
    private static final int BYTES_A_FEED = 20;
    private static final int LEAST_SLOTS = 4;
    private static final int MOST_SLOTS = 24;
    private static final int USUAL_SLOTS = 12;
    private static final int MOST_DRIVES = 4;
    private static final int MOST_PLATTERS = 10;
    private static final int LEAST_CAPACITY = 10;
    private static final int MOST_CAPACITY = 300;
    private static final int MOST_SPARES = 9;
    private static final int MOST_SESSIONS = 8;
    private static final int MOST_BAD = 20;
    private static final int MOST_FILES = 20;
    private static final int MOST_VERSIONS = 40;
    private static final int MOST_SIZE = 300;
    private static final int LEAD_OUT = 2;
    private static final int MOST_TIME = 99;
    private static final int MOST_REQUESTS = 16;
    private static final int MOST_EDITS = 16;
    /** 20 files of at most 14 bytes, such as "19:9,100,150*;". */
    private static final int MOST_OUTPUT = 280;

    private static final int MOVE = 0;
    private static final int GRIP = 1;
    private static final int SPIN = 2;
    private static final int READ = 3;
    private static final int WRITE = 4;
    private static final int TIMES = 5;

    /** Stands for a platter, drive, version or request that is not there; never an answer. */
    private static final int NONE = -1;
    private static final int OK = 0;

    private final TextReader reader;
    private int latestErrorKind;
    private int latestErrorPlace;
    private State state;
    /** Takes what load() reads, so that the current jukebox stays if the text is not legal. */
    private State spare;
    private final History history;
    /** Made by the first batch that is planned, for its table is the largest row of all. */
    private Planner planner;
    private final byte[] output;
    private int outputLength;

    public OpticalJukebox() {
        reader = new TextReader();
        state = new State();
        spare = new State();
        history = new History();
        output = new byte[MOST_OUTPUT];
    }

    // ---- text

    public int feed(int a, int b, int c, int d, int e) {
        if (reader.fed + BYTES_A_FEED > MOST_BYTES) {
            return FULL;
        }
        reader.appendFourBytes(a);
        reader.appendFourBytes(b);
        reader.appendFourBytes(c);
        reader.appendFourBytes(d);
        reader.appendFourBytes(e);
        return reader.fed;
    }

    public int load(int length) {
        if (length < 0 || length > reader.fed) {
            return BAD_VALUE;
        }
        boolean legal = reader.readText(length, spare);
        reader.fed = 0;
        latestErrorKind = reader.kindOfError;
        latestErrorPlace = reader.placeOfError;
        if (!legal) {
            return BAD_TEXT;
        }
        State old = state;
        state = spare;
        spare = old;
        history.forgetAll();
        forgetPlan();
        return state.fileCount;
    }

    public int errorKind() {
        return latestErrorKind;
    }

    public int errorPosition() {
        return latestErrorKind == OK ? NOT_FOUND : latestErrorPlace;
    }

    // ---- places

    public int homeSlot(int platter) {
        return state.hasPlatter(platter) ? state.platters[platter].home : NO_INDEX;
    }

    public int platterInSlot(int slot) {
        if (!state.hasSlot(slot)) {
            return NO_INDEX;
        }
        int platter = state.platterWithHome(slot);
        return platter == NONE || state.driveHolding(platter) != NONE ? NOT_FOUND : platter;
    }

    public int driveOf(int platter) {
        if (!state.hasPlatter(platter)) {
            return NO_INDEX;
        }
        return foundOrNot(state.driveHolding(platter));
    }

    public int platterInDrive(int drive) {
        return state.hasDrive(drive) ? foundOrNot(state.drives[drive].platter) : NO_INDEX;
    }

    private static int foundOrNot(int number) {
        return number == NONE ? NOT_FOUND : number;
    }

    public int pickerPosition() {
        return state.picker;
    }

    public int clock() {
        return state.clock;
    }

    public int exchanges() {
        return state.exchanges;
    }

    public int travel() {
        return state.travel;
    }

    public int chosenDrive(int platter) {
        int problem = mountProblem(platter);
        return problem != OK ? problem : state.driveToChoose(platter);
    }

    public int mountTime(int platter) {
        int problem = mountProblem(platter);
        return problem != OK ? problem : state.chosenBringTime(platter);
    }

    private int mountProblem(int platter) {
        if (!state.hasPlatter(platter)) {
            return NO_INDEX;
        }
        return state.driveCount == 0 ? NO_DRIVE : OK;
    }

    public int mountTimeIn(int platter, int drive) {
        if (!state.hasPlatter(platter) || !state.hasDrive(drive)) {
            return NO_INDEX;
        }
        int holder = state.driveHolding(platter);
        return holder != NONE && holder != drive ? NOT_FOUND : state.bringTime(platter, drive);
    }

    // ---- platters

    public int freeSectors(int platter) {
        return state.hasPlatter(platter) ? state.platters[platter].unused() : NO_INDEX;
    }

    public int sessionCount(int platter) {
        return state.hasPlatter(platter) ? state.platters[platter].sessions : NO_INDEX;
    }

    public int hasOpenSession(int platter) {
        if (!state.hasPlatter(platter)) {
            return NO_INDEX;
        }
        return state.platters[platter].open ? 1 : 0;
    }

    public int sessionStart(int platter, int session) {
        if (!state.hasSession(platter, session)) {
            return NO_INDEX;
        }
        return state.platters[platter].sessionStarts[session];
    }

    public int sessionSize(int platter, int session) {
        if (!state.hasSession(platter, session)) {
            return NO_INDEX;
        }
        return state.platters[platter].sessionSizes[session];
    }

    public int sparesLeft(int platter) {
        return state.hasPlatter(platter) ? state.platters[platter].spares : NO_INDEX;
    }

    public int staleSectors(int platter) {
        return state.hasPlatter(platter) ? state.countStale(platter) : NO_INDEX;
    }

    public int sectorKind(int platter, int sector) {
        return state.hasSector(platter, sector) ? state.kindOfSector(platter, sector) : NO_INDEX;
    }

    public int fillBits(int platter) {
        if (!state.hasPlatter(platter)) {
            return NO_INDEX;
        }
        Platter used = state.platters[platter];
        return bitsOfShare(used.end, used.capacity);
    }

    /**
     * The bits of the float nearest to part / whole, for 0 <= part <= whole <= 300. Done in whole
     * numbers, for the bits of a float cannot be asked for here. A quotient midway between two
     * floats would be an odd number above 2^24 that divides part, so no tie has to be broken.
     */
    private static int bitsOfShare(int part, int whole) {
        if (part <= 0 || whole <= 0) {
            return 0;
        }
        long leading = 1L << 23;
        int shift = 0;
        while (shift < 40 && ((long) part << shift) / whole < leading) {
            shift++;
        }
        long scaled = (long) part << shift;
        long mantissa = scaled / whole;
        if (2 * (scaled % whole) >= whole) {
            mantissa++;
        }
        int exponent = 127 + 23 - shift;
        return (exponent << 23) + (int) (mantissa - leading);
    }

    public int cleanRun(int platter) {
        return state.hasPlatter(platter) ? state.platters[platter].longestCleanRun() : NO_INDEX;
    }

    public int bestPlatter(int size) {
        if (!isSize(size)) {
            return BAD_VALUE;
        }
        if (state.driveCount == 0) {
            return NO_DRIVE;
        }
        int best = NONE;
        int bestTime = 0;
        int bestUnused = 0;
        for (int p = 0; p < state.platterCount; p++) {
            Platter platter = state.platters[p];
            if (platter.canTake(size)) {
                int time = state.chosenBringTime(p);
                int unused = platter.unused();
                if (best == NONE || time < bestTime || time == bestTime && unused < bestUnused) {
                    best = p;
                    bestTime = time;
                    bestUnused = unused;
                }
            }
        }
        return foundOrNot(best);
    }

    private static boolean isSize(int size) {
        return size >= 1 && size <= MOST_SIZE;
    }

    // ---- files

    public int versionCount(int file) {
        return state.hasFile(file) ? state.countVersions(file) : NO_INDEX;
    }

    public int filePlatter(int file) {
        return state.hasFile(file) ? state.currentVersion(file).platter : NO_INDEX;
    }

    public int fileStart(int file) {
        return state.hasFile(file) ? state.currentVersion(file).start : NO_INDEX;
    }

    public int fileSize(int file) {
        return state.hasFile(file) ? state.currentVersion(file).size : NO_INDEX;
    }

    public int fileSession(int file) {
        return state.hasFile(file) ? state.currentVersion(file).session : NO_INDEX;
    }

    public int remappedSectors(int file) {
        return state.hasFile(file) ? state.currentVersion(file).remapped : NO_INDEX;
    }

    public int fileState(int file) {
        if (!state.hasFile(file)) {
            return NO_INDEX;
        }
        if (state.currentVersion(file).damaged) {
            return 1;
        }
        return state.isReadable(file) ? 0 : 2;
    }

    public int readTime(int file) {
        int problem = readProblem(file);
        if (problem != OK) {
            return problem;
        }
        Version version = state.currentVersion(file);
        return state.chosenBringTime(version.platter) + state.sectorsReadTime(version);
    }

    private int readProblem(int file) {
        if (!state.hasFile(file)) {
            return NO_INDEX;
        }
        if (state.driveCount == 0) {
            return NO_DRIVE;
        }
        return state.isReadable(file) ? OK : NOT_POSSIBLE;
    }

    public int lastGoodVersion(int file) {
        return state.hasFile(file) ? foundOrNot(state.lastGood(file)) : NO_INDEX;
    }

    public int fileOfSector(int platter, int sector) {
        if (!state.hasSector(platter, sector)) {
            return NO_INDEX;
        }
        int version = state.versionAt(platter, sector);
        return version == NONE ? NOT_FOUND : state.versions[version].file;
    }

    public int filesOn(int platter) {
        return state.hasPlatter(platter) ? state.countFiles(platter) : NO_INDEX;
    }

    // ---- edits

    public int mount(int platter) {
        int problem = mountProblem(platter);
        if (problem != OK) {
            return problem;
        }
        remember();
        int before = state.clock;
        state.bringToChosen(platter);
        return state.clock - before;
    }

    public int eject(int drive) {
        if (!state.hasDrive(drive)) {
            return NO_INDEX;
        }
        if (state.drives[drive].platter == NONE) {
            return NOT_FOUND;
        }
        remember();
        int before = state.clock;
        state.carryHome(drive);
        return state.clock - before;
    }

    public int read(int file) {
        int problem = readProblem(file);
        if (problem != OK) {
            return problem;
        }
        remember();
        int before = state.clock;
        state.readFile(file);
        return state.clock - before;
    }

    public int write(int file, int size, int platter) {
        if (!state.hasFile(file) || !state.hasPlatter(platter)) {
            return NO_INDEX;
        }
        if (!isSize(size)) {
            return BAD_VALUE;
        }
        int problem = writeProblem(size, platter);
        if (problem != OK) {
            return problem;
        }
        remember();
        int before = state.clock;
        state.writeVersion(file, size, platter);
        return state.clock - before;
    }

    public int create(int size, int platter) {
        if (!state.hasPlatter(platter)) {
            return NO_INDEX;
        }
        if (!isSize(size)) {
            return BAD_VALUE;
        }
        if (state.fileCount >= MOST_FILES) {
            return FULL;
        }
        int problem = writeProblem(size, platter);
        if (problem != OK) {
            return problem;
        }
        remember();
        int file = state.fileCount;
        state.fileCount++;
        state.writeVersion(file, size, platter);
        return file;
    }

    private int writeProblem(int size, int platter) {
        if (state.versionCount >= MOST_VERSIONS) {
            return FULL;
        }
        if (state.driveCount == 0) {
            return NO_DRIVE;
        }
        return state.platters[platter].canTake(size) ? OK : NOT_POSSIBLE;
    }

    public int closeSession(int platter) {
        if (!state.hasPlatter(platter)) {
            return NO_INDEX;
        }
        if (!state.platters[platter].open) {
            return NOT_FOUND;
        }
        if (state.driveCount == 0) {
            return NO_DRIVE;
        }
        remember();
        return state.closeInDrive(platter);
    }

    public int markBad(int platter, int sector) {
        if (!state.hasSector(platter, sector)) {
            return NO_INDEX;
        }
        if (state.platters[platter].isBad(sector)) {
            return UNCHANGED;
        }
        if (state.badCount >= MOST_BAD) {
            return FULL;
        }
        remember();
        state.spoil(platter, sector);
        return state.countDamaged();
    }

    public int moveHome(int platter, int slot) {
        if (!state.hasPlatter(platter) || !state.hasSlot(slot)) {
            return NO_INDEX;
        }
        int home = state.platters[platter].home;
        if (home == slot) {
            return UNCHANGED;
        }
        if (state.driveHolding(platter) != NONE) {
            return NOT_FOUND;
        }
        if (state.platterWithHome(slot) != NONE) {
            return FULL;
        }
        remember();
        state.platters[platter].home = slot;
        return home;
    }

    public int setTimes(int move, int grip, int spin, int read, int write) {
        if (!isTime(move) || !isTime(grip) || !isTime(spin) || !isTime(read) || !isTime(write)) {
            return BAD_VALUE;
        }
        int[] times = state.times;
        if (times[MOVE] == move && times[GRIP] == grip && times[SPIN] == spin
                && times[READ] == read && times[WRITE] == write) {
            return UNCHANGED;
        }
        remember();
        int sum = times[MOVE] + times[GRIP] + times[SPIN] + times[READ] + times[WRITE];
        state.putTimes(move, grip, spin, read, write);
        return sum;
    }

    private static boolean isTime(int time) {
        return time >= 0 && time <= MOST_TIME;
    }

    public int request(int file) {
        if (!state.hasFile(file)) {
            return NO_INDEX;
        }
        if (!state.isReadable(file)) {
            return NOT_POSSIBLE;
        }
        if (state.requestCount >= MOST_REQUESTS) {
            return FULL;
        }
        remember();
        state.requests[state.requestCount] = file;
        state.requestCount++;
        return state.requestCount;
    }

    public int dropRequest(int request) {
        if (!state.hasRequest(request)) {
            return NO_INDEX;
        }
        remember();
        return state.removeRequest(request);
    }

    public int serveBatch() {
        int problem = planBatch();
        if (problem != OK) {
            return problem;
        }
        remember();
        int before = state.clock;
        Planner plan = readyPlanner();
        state.readInDrives();
        for (int place = 0; place < plan.orderLength; place++) {
            state.bringInto(plan.order[place], plan.drive);
            state.readRequestsIn(plan.drive);
        }
        state.requestCount = 0;
        return state.clock - before;
    }

    public int undo() {
        if (history.count == 0) {
            return NOT_FOUND;
        }
        state = history.goBack(state);
        forgetPlan();
        return history.count;
    }

    /** Every edit calls this when nothing can fail any more, and before its first change. */
    private void remember() {
        history.keep(state);
        forgetPlan();
    }

    // ---- batches and what other decisions would cost

    public int requestedFile(int request) {
        return state.hasRequest(request) ? state.requests[request] : NO_INDEX;
    }

    public int batchTime() {
        int problem = batchProblem(1);
        return problem != OK ? problem : readyPlanner().timeWithout(state, NONE);
    }

    public int batchExchanges() {
        int problem = planBatch();
        return problem != OK ? problem : readyPlanner().orderLength;
    }

    public int batchPlatter(int place) {
        int problem = planBatch();
        if (problem != OK) {
            return problem;
        }
        Planner plan = readyPlanner();
        return place < 0 || place >= plan.orderLength ? NO_INDEX : plan.order[place];
    }

    public int oneByOneTime() {
        int problem = batchProblem(1);
        if (problem != OK) {
            return problem;
        }
        spare.copyFrom(state);
        for (int r = 0; r < state.requestCount; r++) {
            spare.readFile(state.requests[r]);
        }
        return spare.clock - state.clock;
    }

    public int leastTimeWithoutOne() {
        int problem = batchProblem(2);
        if (problem != OK) {
            return problem;
        }
        Planner plan = readyPlanner();
        int least = Integer.MAX_VALUE;
        for (int r = 0; r < state.requestCount; r++) {
            least = Math.min(least, plan.timeWithout(state, r));
        }
        return least;
    }

    private int batchProblem(int fewestRequests) {
        if (state.requestCount < fewestRequests) {
            return NOT_FOUND;
        }
        if (state.driveCount == 0) {
            return NO_DRIVE;
        }
        for (int r = 0; r < state.requestCount; r++) {
            if (!state.isReadable(state.requests[r])) {
                return NOT_POSSIBLE;
            }
        }
        return OK;
    }

    /** Leaves the order of the platters in the planner, unless the batch cannot be served. */
    private int planBatch() {
        int problem = batchProblem(1);
        if (problem == OK) {
            readyPlanner().planOrder(state);
        }
        return problem;
    }

    private Planner readyPlanner() {
        if (planner == null) {
            planner = new Planner();
        }
        return planner;
    }

    private void forgetPlan() {
        if (planner != null) {
            planner.forgetTable();
        }
    }

    public int nearestHome(int platter) {
        int problem = mountProblem(platter);
        if (problem != OK) {
            return problem;
        }
        int best = NONE;
        int bestDistance = 0;
        for (int slot = 0; slot < state.slotCount; slot++) {
            int owner = state.platterWithHome(slot);
            int distance = state.distanceToDrive(slot);
            if ((owner == NONE || owner == platter) && (best == NONE || distance < bestDistance)) {
                best = slot;
                bestDistance = distance;
            }
        }
        return foundOrNot(best);
    }

    // ---- output

    public int writeCatalogue() {
        outputLength = 0;
        for (int file = 0; file < state.fileCount; file++) {
            Version version = state.currentVersion(file);
            putNumber(file);
            putByte(':');
            putNumber(version.platter);
            putByte(',');
            putNumber(version.start);
            putByte(',');
            putNumber(version.size);
            if (state.isReadable(file)) {
                putByte('*');
            }
            putByte(';');
        }
        return outputLength;
    }

    /** No number of the catalogue has more than three digits. */
    private void putNumber(int number) {
        if (number >= 100) {
            putByte('0' + number / 100 % 10);
        }
        if (number >= 10) {
            putByte('0' + number / 10 % 10);
        }
        putByte('0' + number % 10);
    }

    private void putByte(int sign) {
        if (outputLength < MOST_OUTPUT) {
            output[outputLength] = (byte) sign;
            outputLength++;
        }
    }

    public int outputByte(int index) {
        return index < 0 || index >= outputLength ? NO_INDEX : output[index];
    }

    // ---- what the jukebox is made of

    private static final class Platter {
        int home;
        int capacity;
        int spares;
        int end;
        int sessions;
        boolean open;
        final int[] sessionStarts = new int[MOST_SESSIONS];
        final int[] sessionSizes = new int[MOST_SESSIONS];
        /** A bit for each sector, 32 in a row: 1 if the sector is bad. */
        final int[] badBits = new int[MOST_CAPACITY / 32 + 1];

        void begin(int homeSlot, int sectors, int spareSectors) {
            home = homeSlot;
            capacity = sectors;
            spares = spareSectors;
            end = 0;
            sessions = 0;
            open = false;
            Arrays.fill(badBits, 0);
        }

        void copyFrom(Platter other) {
            home = other.home;
            capacity = other.capacity;
            spares = other.spares;
            end = other.end;
            sessions = other.sessions;
            open = other.open;
            System.arraycopy(other.sessionStarts, 0, sessionStarts, 0, MOST_SESSIONS);
            System.arraycopy(other.sessionSizes, 0, sessionSizes, 0, MOST_SESSIONS);
            System.arraycopy(other.badBits, 0, badBits, 0, badBits.length);
        }

        int unused() {
            return capacity - end;
        }

        boolean isBad(int sector) {
            if (sector < 0 || sector >= MOST_CAPACITY) {
                return false;
            }
            return (badBits[sector / 32] >>> (sector % 32) & 1) != 0;
        }

        void setBad(int sector) {
            if (sector >= 0 && sector < MOST_CAPACITY) {
                badBits[sector / 32] |= 1 << (sector % 32);
            }
        }

        int badAmongNext(int size) {
            int found = 0;
            for (int sector = end; sector < end + size; sector++) {
                if (isBad(sector)) {
                    found++;
                }
            }
            return found;
        }

        boolean canTake(int size) {
            if (!open && sessions >= MOST_SESSIONS) {
                return false;
            }
            return size <= unused() && badAmongNext(size) <= spares;
        }

        /** To be called only if canTake(size), with the bad sectors among the next ones. */
        void takeSectors(int size, int remapped) {
            if (!open && sessions < MOST_SESSIONS) {
                sessionStarts[sessions] = end;
                sessionSizes[sessions] = 0;
                sessions++;
                open = true;
            }
            spares -= remapped;
            extendLastSession(size);
        }

        int addLeadOut() {
            int leadOut = Math.min(LEAD_OUT, unused());
            extendLastSession(leadOut);
            open = false;
            return leadOut;
        }

        private void extendLastSession(int size) {
            if (sessions > 0 && sessions <= MOST_SESSIONS) {
                sessionSizes[sessions - 1] += size;
                end += size;
            }
        }

        boolean isClosed(int session) {
            return !open || session != sessions - 1;
        }

        int longestCleanRun() {
            int longest = 0;
            int run = 0;
            for (int sector = end; sector < capacity; sector++) {
                run = isBad(sector) ? 0 : run + 1;
                longest = Math.max(longest, run);
            }
            return longest;
        }
    }

    private static final class Version {
        int file;
        int platter;
        int start;
        int size;
        int session;
        int remapped;
        boolean damaged;

        void copyFrom(Version other) {
            file = other.file;
            platter = other.platter;
            start = other.start;
            size = other.size;
            session = other.session;
            remapped = other.remapped;
            damaged = other.damaged;
        }

        boolean holds(int onPlatter, int sector) {
            return platter == onPlatter && sector >= start && sector < start + size;
        }
    }

    private static final class Drive {
        int position;
        int platter;
        /** Greater for a later use; 0 if the drive was never used. */
        int lastUse;

        void copyFrom(Drive other) {
            position = other.position;
            platter = other.platter;
            lastUse = other.lastUse;
        }
    }

    /** All that an edit can change, so that a copy of it is enough to undo the edit. */
    private static final class State {
        int slotCount;
        final int[] times = new int[TIMES];
        final Drive[] drives = new Drive[MOST_DRIVES];
        int driveCount;
        int uses;
        final Platter[] platters = new Platter[MOST_PLATTERS];
        int platterCount;
        int badCount;
        final Version[] versions = new Version[MOST_VERSIONS];
        int versionCount;
        /** For each file the number of its current version in versions. */
        final int[] current = new int[MOST_FILES];
        int fileCount;
        final int[] requests = new int[MOST_REQUESTS];
        int requestCount;
        int picker;
        int clock;
        int exchanges;
        int travel;

        State() {
            for (int d = 0; d < MOST_DRIVES; d++) {
                drives[d] = new Drive();
            }
            for (int p = 0; p < MOST_PLATTERS; p++) {
                platters[p] = new Platter();
            }
            for (int v = 0; v < MOST_VERSIONS; v++) {
                versions[v] = new Version();
            }
            beginEmpty();
        }

        /** The jukebox of an empty text. What lies beyond the counts is written before it is used. */
        void beginEmpty() {
            slotCount = USUAL_SLOTS;
            putTimes(1, 2, 5, 1, 3);
            driveCount = 0;
            uses = 0;
            platterCount = 0;
            badCount = 0;
            versionCount = 0;
            fileCount = 0;
            requestCount = 0;
            picker = 0;
            clock = 0;
            exchanges = 0;
            travel = 0;
        }

        void copyFrom(State other) {
            slotCount = other.slotCount;
            System.arraycopy(other.times, 0, times, 0, TIMES);
            driveCount = other.driveCount;
            for (int d = 0; d < driveCount; d++) {
                drives[d].copyFrom(other.drives[d]);
            }
            uses = other.uses;
            platterCount = other.platterCount;
            for (int p = 0; p < platterCount; p++) {
                platters[p].copyFrom(other.platters[p]);
            }
            badCount = other.badCount;
            versionCount = other.versionCount;
            for (int v = 0; v < versionCount; v++) {
                versions[v].copyFrom(other.versions[v]);
            }
            System.arraycopy(other.current, 0, current, 0, MOST_FILES);
            fileCount = other.fileCount;
            System.arraycopy(other.requests, 0, requests, 0, MOST_REQUESTS);
            requestCount = other.requestCount;
            picker = other.picker;
            clock = other.clock;
            exchanges = other.exchanges;
            travel = other.travel;
        }

        void putTimes(int move, int grip, int spin, int read, int write) {
            times[MOVE] = move;
            times[GRIP] = grip;
            times[SPIN] = spin;
            times[READ] = read;
            times[WRITE] = write;
        }

        boolean hasSlot(int slot) {
            return slot >= 0 && slot < slotCount;
        }

        boolean hasDrive(int drive) {
            return drive >= 0 && drive < driveCount;
        }

        boolean hasPlatter(int platter) {
            return platter >= 0 && platter < platterCount;
        }

        boolean hasSession(int platter, int session) {
            return hasPlatter(platter) && session >= 0 && session < platters[platter].sessions;
        }

        boolean hasSector(int platter, int sector) {
            return hasPlatter(platter) && sector >= 0 && sector < platters[platter].capacity;
        }

        boolean hasFile(int file) {
            return file >= 0 && file < fileCount;
        }

        boolean hasRequest(int request) {
            return request >= 0 && request < requestCount;
        }

        // -- platters and files

        void addDrive(int position) {
            if (driveCount < MOST_DRIVES) {
                Drive drive = drives[driveCount];
                drive.position = position;
                drive.platter = NONE;
                drive.lastUse = 0;
                driveCount++;
            }
        }

        void addPlatter(int slot, int capacity, int spares) {
            if (platterCount < MOST_PLATTERS) {
                platters[platterCount].begin(slot, capacity, spares);
                platterCount++;
            }
        }

        int platterWithHome(int slot) {
            for (int p = 0; p < platterCount; p++) {
                if (platters[p].home == slot) {
                    return p;
                }
            }
            return NONE;
        }

        /** To be called only if the platter can take the version and there is room for it. */
        void addVersion(int file, int size, int platter) {
            if (versionCount < MOST_VERSIONS && hasFile(file) && hasPlatter(platter)) {
                Platter taker = platters[platter];
                Version version = versions[versionCount];
                version.file = file;
                version.platter = platter;
                version.start = taker.end;
                version.size = size;
                version.remapped = taker.badAmongNext(size);
                version.damaged = false;
                taker.takeSectors(size, version.remapped);
                version.session = taker.sessions - 1;
                current[file] = versionCount;
                versionCount++;
            }
        }

        void spoil(int platter, int sector) {
            platters[platter].setBad(sector);
            badCount++;
            int version = versionAt(platter, sector);
            if (version != NONE) {
                versions[version].damaged = true;
            }
        }

        Version currentVersion(int file) {
            return versions[current[file]];
        }

        boolean isGood(Version version) {
            return !version.damaged && platters[version.platter].isClosed(version.session);
        }

        boolean isReadable(int file) {
            return isGood(currentVersion(file));
        }

        int versionAt(int platter, int sector) {
            for (int v = 0; v < versionCount; v++) {
                if (versions[v].holds(platter, sector)) {
                    return v;
                }
            }
            return NONE;
        }

        boolean isCurrent(int version) {
            return current[versions[version].file] == version;
        }

        int kindOfSector(int platter, int sector) {
            int kind = 0;
            if (sector < platters[platter].end) {
                int version = versionAt(platter, sector);
                kind = version == NONE ? 3 : isCurrent(version) ? 1 : 2;
            }
            return platters[platter].isBad(sector) ? kind + 10 : kind;
        }

        int countStale(int platter) {
            int stale = 0;
            for (int v = 0; v < versionCount; v++) {
                if (versions[v].platter == platter && !isCurrent(v)) {
                    stale += versions[v].size;
                }
            }
            return stale;
        }

        int countDamaged() {
            int damaged = 0;
            for (int v = 0; v < versionCount; v++) {
                if (versions[v].damaged) {
                    damaged++;
                }
            }
            return damaged;
        }

        int countVersions(int file) {
            int found = 0;
            for (int v = 0; v < versionCount; v++) {
                if (versions[v].file == file) {
                    found++;
                }
            }
            return found;
        }

        int countFiles(int platter) {
            int found = 0;
            for (int file = 0; file < fileCount; file++) {
                if (currentVersion(file).platter == platter) {
                    found++;
                }
            }
            return found;
        }

        /** The number of the version among those of its file. */
        int lastGood(int file) {
            int number = 0;
            int last = NONE;
            for (int v = 0; v < versionCount; v++) {
                if (versions[v].file == file) {
                    last = isGood(versions[v]) ? number : last;
                    number++;
                }
            }
            return last;
        }

        // -- mechanics and time

        int driveHolding(int platter) {
            for (int d = 0; d < driveCount; d++) {
                if (drives[d].platter == platter) {
                    return d;
                }
            }
            return NONE;
        }

        /** NONE only if there is no drive. */
        int driveToChoose(int platter) {
            int holder = driveHolding(platter);
            return holder != NONE ? holder : driveForAway(0);
        }

        /**
         * The drive for a platter that is in none, after the requests but one for the platters in
         * drives were read. Where all drives are full, a drive that was read in is newer than all
         * others, and the newer the higher its number is.
         */
        int driveAfterReading(int skippedRequest) {
            int readDrives = 0;
            for (int r = 0; r < requestCount; r++) {
                int holder = driveHolding(currentVersion(requests[r]).platter);
                if (r != skippedRequest && holder != NONE) {
                    readDrives |= 1 << holder;
                }
            }
            return driveForAway(readDrives);
        }

        /** NONE only if there is no drive; readDrives has a bit for each drive used at last. */
        private int driveForAway(int readDrives) {
            int oldest = NONE;
            int oldestUse = 0;
            for (int d = 0; d < driveCount; d++) {
                if (drives[d].platter == NONE) {
                    return d;
                }
                int use = (readDrives >> d & 1) != 0 ? uses + 1 + d : drives[d].lastUse;
                if (oldest == NONE || use < oldestUse) {
                    oldest = d;
                    oldestUse = use;
                }
            }
            return oldest;
        }

        int distanceToDrive(int slot) {
            int nearest = MOST_SLOTS;
            for (int d = 0; d < driveCount; d++) {
                nearest = Math.min(nearest, Math.abs(slot - drives[d].position));
            }
            return nearest;
        }

        /** How far the picker goes to bring a platter into a drive that it is not in. */
        private int bringMoves(int platter, int drive) {
            int position = drives[drive].position;
            int inDrive = drives[drive].platter;
            int moves = 0;
            int from = picker;
            if (inDrive != NONE) {
                int emptied = platters[inDrive].home;
                moves = Math.abs(from - position) + Math.abs(position - emptied);
                from = emptied;
            }
            int home = platters[platter].home;
            return moves + Math.abs(from - home) + Math.abs(home - position);
        }

        int bringTime(int platter, int drive) {
            int inDrive = drives[drive].platter;
            if (inDrive == platter) {
                return 0;
            }
            int grips = inDrive == NONE ? 2 : 4;
            return bringMoves(platter, drive) * times[MOVE] + grips * times[GRIP] + times[SPIN];
        }

        int chosenBringTime(int platter) {
            int drive = driveToChoose(platter);
            return drive == NONE ? 0 : bringTime(platter, drive);
        }

        void bringInto(int platter, int drive) {
            if (drives[drive].platter != platter) {
                clock += bringTime(platter, drive);
                travel += bringMoves(platter, drive);
                picker = drives[drive].position;
                drives[drive].platter = platter;
                exchanges++;
            }
            useDrive(drive);
        }

        void bringToChosen(int platter) {
            int drive = driveToChoose(platter);
            if (drive != NONE) {
                bringInto(platter, drive);
            }
        }

        private void useDrive(int drive) {
            uses++;
            drives[drive].lastUse = uses;
        }

        void carryHome(int drive) {
            int platter = drives[drive].platter;
            if (platter != NONE) {
                int position = drives[drive].position;
                int home = platters[platter].home;
                int moves = Math.abs(picker - position) + Math.abs(position - home);
                clock += moves * times[MOVE] + 2 * times[GRIP];
                travel += moves;
                picker = home;
                drives[drive].platter = NONE;
            }
        }

        int sectorsReadTime(Version version) {
            return times[READ] * (version.size + version.remapped);
        }

        void readFile(int file) {
            Version version = currentVersion(file);
            bringToChosen(version.platter);
            clock += sectorsReadTime(version);
        }

        void writeVersion(int file, int size, int platter) {
            bringToChosen(platter);
            clock += times[WRITE] * size;
            addVersion(file, size, platter);
        }

        int closeInDrive(int platter) {
            bringToChosen(platter);
            int leadOut = platters[platter].addLeadOut();
            clock += times[WRITE] * leadOut;
            return leadOut;
        }

        // -- batches

        int removeRequest(int request) {
            int file = requests[request];
            requestCount--;
            for (int r = request; r < requestCount; r++) {
                requests[r] = requests[r + 1];
            }
            return file;
        }

        /** A bit for each platter that is requested, but for one request, and is in no drive. */
        int awayPlatters(int skippedRequest) {
            int away = 0;
            for (int r = 0; r < requestCount; r++) {
                int platter = currentVersion(requests[r]).platter;
                if (r != skippedRequest && driveHolding(platter) == NONE) {
                    away |= 1 << platter;
                }
            }
            return away;
        }

        int requestsReadTime(int skippedRequest) {
            int time = 0;
            for (int r = 0; r < requestCount; r++) {
                if (r != skippedRequest) {
                    time += sectorsReadTime(currentVersion(requests[r]));
                }
            }
            return time;
        }

        void readInDrives() {
            for (int d = 0; d < driveCount; d++) {
                readRequestsIn(d);
            }
        }

        void readRequestsIn(int drive) {
            for (int r = 0; r < requestCount; r++) {
                Version version = currentVersion(requests[r]);
                if (version.platter == drives[drive].platter) {
                    clock += sectorsReadTime(version);
                    useDrive(drive);
                }
            }
        }
    }

    /** The states before the latest edits, in a ring. */
    private static final class History {
        /** A state is made when its place is needed for the first time, and used again later. */
        private final State[] states = new State[MOST_EDITS];
        private int first;
        int count;

        void forgetAll() {
            count = 0;
        }

        void keep(State state) {
            int place = (first + count) % MOST_EDITS;
            if (states[place] == null) {
                states[place] = new State();
            }
            states[place].copyFrom(state);
            if (count < MOST_EDITS) {
                count++;
            } else {
                first = (first + 1) % MOST_EDITS;
            }
        }

        /** Answers the state before the latest edit; the state that is left is used again here. */
        State goBack(State left) {
            if (count == 0) {
                return left;
            }
            count--;
            int place = (first + count) % MOST_EDITS;
            State back = states[place];
            states[place] = left;
            return back == null ? left : back;
        }
    }

    /** Finds the order with the least time in which one drive is given the platters of a batch. */
    private static final class Planner {
        /** For a set of platters and the platter in the drive: the least time to bring the set. */
        private final int[] rest = new int[(1 << MOST_PLATTERS) * MOST_PLATTERS];
        /** For the platter in the drive and the next one: the time of the exchange. */
        private final int[] swap = new int[MOST_PLATTERS * MOST_PLATTERS];
        final int[] order = new int[MOST_PLATTERS];
        int orderLength;
        int drive = NONE;
        /**
         * The drive for which the table holds. It has all sets of the requested platters that are
         * in no drive, so it serves the batch without one of its requests, too.
         */
        private int tableDrive = NONE;

        /** Must be told whenever the jukebox changes, as the table is kept between calls. */
        void forgetTable() {
            tableDrive = NONE;
        }

        /** The time of the batch without a request, or with all if there is no such request. */
        int timeWithout(State state, int skippedRequest) {
            int away = state.awayPlatters(skippedRequest);
            int bringTime = leastTime(state, state.driveAfterReading(skippedRequest), away);
            return state.requestsReadTime(skippedRequest) + bringTime;
        }

        void planOrder(State state) {
            int left = state.awayPlatters(NONE);
            drive = state.driveAfterReading(NONE);
            orderLength = 0;
            if (!state.hasDrive(drive)) {
                return;
            }
            int time = leastTime(state, drive, left);
            int inDrive = NONE;
            for (int place = 0; place < MOST_PLATTERS && left != 0; place++) {
                int next = lowestNext(state, inDrive, left, time);
                if (next == NONE) {
                    return;
                }
                left ^= 1 << next;
                time = rest[left * MOST_PLATTERS + next];
                order[place] = next;
                orderLength++;
                inDrive = next;
            }
        }

        /** The lowest platter that can come next if the rest shall not take more than the time. */
        private int lowestNext(State state, int inDrive, int left, int time) {
            for (int p = 0; p < MOST_PLATTERS; p++) {
                if ((left >> p & 1) != 0 && stepTime(state, inDrive, p)
                        + rest[(left ^ 1 << p) * MOST_PLATTERS + p] == time) {
                    return p;
                }
            }
            return NONE;
        }

        /** The first step begins with what is in the drive and where the picker is now. */
        private int stepTime(State state, int inDrive, int next) {
            if (inDrive == NONE) {
                return state.bringTime(next, drive);
            }
            return swap[inDrive * MOST_PLATTERS + next];
        }

        private int leastTime(State state, int intoDrive, int set) {
            if (set == 0 || !state.hasDrive(intoDrive)) {
                return 0;
            }
            if (tableDrive != intoDrive) {
                fillSwap(state, intoDrive);
                fillRest(state.awayPlatters(NONE));
                tableDrive = intoDrive;
            }
            int least = Integer.MAX_VALUE;
            for (int p = 0; p < MOST_PLATTERS; p++) {
                if ((set >> p & 1) != 0) {
                    int after = rest[(set ^ 1 << p) * MOST_PLATTERS + p];
                    least = Math.min(least, state.bringTime(p, intoDrive) + after);
                }
            }
            return least;
        }

        private void fillSwap(State state, int intoDrive) {
            int position = state.drives[intoDrive].position;
            int fixed = 4 * state.times[GRIP] + state.times[SPIN];
            for (int p = 0; p < state.platterCount; p++) {
                int home = state.platters[p].home;
                for (int q = 0; q < state.platterCount; q++) {
                    int other = state.platters[q].home;
                    int moves = Math.abs(position - home) + Math.abs(home - other)
                            + Math.abs(other - position);
                    swap[p * MOST_PLATTERS + q] = moves * state.times[MOVE] + fixed;
                }
            }
        }

        /** Each set is greater, as a number, than the sets that its answer is made of. */
        private void fillRest(int whole) {
            for (int set = 0; set < whole; set++) {
                if ((set & ~whole) == 0) {
                    for (int p = 0; p < MOST_PLATTERS; p++) {
                        if ((whole >> p & 1) != 0 && (set >> p & 1) == 0) {
                            rest[set * MOST_PLATTERS + p] = restAfter(p, set);
                        }
                    }
                }
            }
        }

        private int restAfter(int inDrive, int set) {
            if (set == 0) {
                return 0;
            }
            int least = Integer.MAX_VALUE;
            for (int p = 0; p < MOST_PLATTERS; p++) {
                if ((set >> p & 1) != 0) {
                    int after = rest[(set ^ 1 << p) * MOST_PLATTERS + p];
                    least = Math.min(least, swap[inDrive * MOST_PLATTERS + p] + after);
                }
            }
            return least;
        }
    }

    /** Reads a text, token by token, up to its end or its first error. */
    private static final class TextReader {
        private static final int END = 0;
        private static final int ILLEGAL = 1;
        private static final int WORD = 2;
        private static final int NUMBER = 3;
        private static final int SEMICOLON = 4;

        private static final int MOST_LETTERS = 8;
        private static final int MOST_DIGITS = 5;

        private static final int ILLEGAL_TOKEN = 1;
        private static final int OTHER_EXPECTED = 2;
        private static final int OUT_OF_RANGE = 3;
        private static final int TAKEN_ALREADY = 4;
        private static final int ONE_TOO_MANY = 5;
        private static final int CANNOT_BE_DONE = 6;

        private final byte[] text = new byte[MOST_BYTES];
        /** How many bytes the buffer holds, and how many of them are the text. */
        int fed;
        private int length;
        /** Where the current token begins, and where the next one may begin. */
        private int tokenStart;
        private int tokenEnd;
        private int token;
        private final long[] names = new long[MOST_FILES];
        int kindOfError;
        int placeOfError;

        void appendFourBytes(int four) {
            for (int shift = 24; shift >= 0 && fed < MOST_BYTES; shift -= 8) {
                text[fed] = (byte) (four >> shift);
                fed++;
            }
        }

        /** Answers whether the text is legal; the state is of use only then. */
        boolean readText(int textLength, State into) {
            length = Math.min(textLength, fed);
            tokenEnd = 0;
            kindOfError = OK;
            placeOfError = 0;
            into.beginEmpty();
            for (int statement = 0; statement <= length; statement++) {
                nextToken();
                if (token == END) {
                    return true;
                }
                if (!readStatement(statement == 0, into) || !readSemicolon()) {
                    return false;
                }
            }
            return false;
        }

        private boolean readStatement(boolean first, State into) {
            if (wordIs("slots")) {
                return first ? readSlots(into) : fail(ONE_TOO_MANY);
            }
            if (wordIs("drive")) {
                return readDrive(into);
            }
            if (wordIs("time")) {
                return readTimes(into);
            }
            if (wordIs("platter")) {
                return readPlatter(into);
            }
            if (wordIs("bad")) {
                return readBad(into);
            }
            if (wordIs("file")) {
                return readNewFile(into);
            }
            return wordIs("close") ? readClose(into) : failUnexpected();
        }

        private boolean readSlots(State into) {
            int count = readNumber(LEAST_SLOTS, MOST_SLOTS);
            if (count == NONE) {
                return false;
            }
            into.slotCount = count;
            return true;
        }

        private boolean readDrive(State into) {
            if (into.driveCount >= MOST_DRIVES) {
                return fail(ONE_TOO_MANY);
            }
            int position = readNumber(0, into.slotCount - 1);
            if (position == NONE) {
                return false;
            }
            into.addDrive(position);
            return true;
        }

        private boolean readTimes(State into) {
            for (int i = 0; i < TIMES; i++) {
                int time = readNumber(0, MOST_TIME);
                if (time == NONE) {
                    return false;
                }
                into.times[i] = time;
            }
            return true;
        }

        private boolean readPlatter(State into) {
            if (into.platterCount >= MOST_PLATTERS) {
                return fail(ONE_TOO_MANY);
            }
            int slot = readNumber(0, into.slotCount - 1);
            if (slot == NONE) {
                return false;
            }
            if (into.platterWithHome(slot) != NONE) {
                return fail(TAKEN_ALREADY);
            }
            int capacity = readNumber(LEAST_CAPACITY, MOST_CAPACITY);
            if (capacity == NONE) {
                return false;
            }
            int spares = readNumber(0, MOST_SPARES);
            if (spares == NONE) {
                return false;
            }
            into.addPlatter(slot, capacity, spares);
            return true;
        }

        private boolean readBad(State into) {
            if (into.badCount >= MOST_BAD) {
                return fail(ONE_TOO_MANY);
            }
            int platter = readNumber(0, into.platterCount - 1);
            if (platter == NONE) {
                return false;
            }
            int sector = readNumber(0, into.platters[platter].capacity - 1);
            if (sector == NONE) {
                return false;
            }
            if (into.platters[platter].isBad(sector)) {
                return fail(TAKEN_ALREADY);
            }
            into.spoil(platter, sector);
            return true;
        }

        private boolean readNewFile(State into) {
            if (into.fileCount >= MOST_FILES) {
                return fail(ONE_TOO_MANY);
            }
            nextToken();
            if (token != WORD || isReserved()) {
                return failUnexpected();
            }
            if (!keepName(into.fileCount)) {
                return fail(TAKEN_ALREADY);
            }
            int size = readNumber(1, MOST_SIZE);
            if (size == NONE) {
                return false;
            }
            int platter = readNumber(0, into.platterCount - 1);
            if (platter == NONE) {
                return false;
            }
            if (!into.platters[platter].canTake(size)) {
                return fail(CANNOT_BE_DONE);
            }
            into.fileCount++;
            into.addVersion(into.fileCount - 1, size, platter);
            return true;
        }

        private boolean readClose(State into) {
            int platter = readNumber(0, into.platterCount - 1);
            if (platter == NONE) {
                return false;
            }
            if (!into.platters[platter].open) {
                return fail(CANNOT_BE_DONE);
            }
            into.platters[platter].addLeadOut();
            return true;
        }

        /** Answers false if the word is the name of an earlier file. */
        private boolean keepName(int file) {
            long name = wordNumber();
            for (int earlier = 0; earlier < file; earlier++) {
                if (names[earlier] == name) {
                    return false;
                }
            }
            names[file] = name;
            return true;
        }

        private boolean isReserved() {
            return wordIs("slots") || wordIs("drive") || wordIs("time") || wordIs("platter")
                    || wordIs("bad") || wordIs("file") || wordIs("close");
        }

        /** NONE if the next token is not a number from least to most. */
        private int readNumber(int least, int most) {
            nextToken();
            if (token != NUMBER) {
                failUnexpected();
                return NONE;
            }
            int value = tokenValue();
            if (value < least || value > most) {
                fail(OUT_OF_RANGE);
                return NONE;
            }
            return value;
        }

        private boolean readSemicolon() {
            nextToken();
            if (token == SEMICOLON) {
                return true;
            }
            return failUnexpected();
        }

        private boolean failUnexpected() {
            return fail(token == ILLEGAL ? ILLEGAL_TOKEN : OTHER_EXPECTED);
        }

        /** The error is at the current token, or at the end of the text if there is none. */
        private boolean fail(int kind) {
            kindOfError = kind;
            placeOfError = tokenStart;
            return false;
        }

        private void nextToken() {
            tokenStart = tokenEnd;
            while (tokenStart < length && (text[tokenStart] == ' ' || text[tokenStart] == '\n')) {
                tokenStart++;
            }
            tokenEnd = tokenStart;
            if (tokenStart >= length) {
                token = END;
            } else if (isBetween(tokenStart, 'a', 'z')) {
                token = endOfRun('a', 'z') <= MOST_LETTERS ? WORD : ILLEGAL;
            } else if (isBetween(tokenStart, '0', '9')) {
                token = endOfRun('0', '9') <= MOST_DIGITS ? NUMBER : ILLEGAL;
            } else {
                token = text[tokenStart] == ';' ? SEMICOLON : ILLEGAL;
                tokenEnd++;
            }
        }

        private boolean isBetween(int place, int least, int most) {
            return text[place] >= least && text[place] <= most;
        }

        /** Puts the token's end behind its run of such bytes, and answers the run's length. */
        private int endOfRun(int least, int most) {
            while (tokenEnd < length && isBetween(tokenEnd, least, most)) {
                tokenEnd++;
            }
            return tokenEnd - tokenStart;
        }

        private boolean wordIs(String wanted) {
            if (token != WORD || tokenEnd - tokenStart != wanted.length()) {
                return false;
            }
            for (int i = 0; i < wanted.length(); i++) {
                if (text[tokenStart + i] != wanted.charAt(i)) {
                    return false;
                }
            }
            return true;
        }

        /** Different words have different numbers: 5 bits for each letter, none of them 0. */
        private long wordNumber() {
            long number = 0;
            for (int place = tokenStart; place < tokenEnd; place++) {
                number = number * 32 + (text[place] - 'a' + 1);
            }
            return number;
        }

        private int tokenValue() {
            int value = 0;
            for (int place = tokenStart; place < tokenEnd; place++) {
                value = value * 10 + (text[place] - '0');
            }
            return value;
        }
    }
}
