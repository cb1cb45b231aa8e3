import java.util.ArrayList;
import java.util.Arrays;
import java.util.HashSet;
import java.util.List;
import java.util.Set;
import java.util.TreeSet;

/**
 * The document once more, in the plainest form and with the whole Java library: what an edit would
 * do is tried on a deep copy, and the order of a batch is found by trying all of them. The random
 * runs compare OpticalJukebox with it.
 */
public final class PlainJukebox {
    static final int NO_INDEX = -1000001;
    static final int BAD_VALUE = -1000002;
    static final int FULL = -1000003;
    static final int UNCHANGED = -1000004;
    static final int NOT_FOUND = -1000005;
    static final int BAD_TEXT = -1000006;
    static final int NO_DRIVE = -1000007;
    static final int NOT_POSSIBLE = -1000008;

    static final class Range {
        int from;
        int size;
    }

    static final class Disc {
        int home;
        int capacity;
        int spares;
        int end;
        boolean open;
        List<Range> sessions = new ArrayList<>();
        Set<Integer> bad = new HashSet<>();
    }

    static final class Copy {
        int disc;
        int start;
        int size;
        int session;
        int remapped;
        boolean damaged;
    }

    static final class Box {
        int slots = 12;
        int[] times = {1, 2, 5, 1, 3};
        List<Integer> drivePositions = new ArrayList<>();
        List<Integer> driveDiscs = new ArrayList<>();
        /** Drives in the order of their latest use, the latest last. */
        List<Integer> used = new ArrayList<>();
        List<Disc> discs = new ArrayList<>();
        List<List<Copy>> files = new ArrayList<>();
        List<Integer> batch = new ArrayList<>();
        int picker;
        int clock;
        int exchanges;
        int travel;

        Box copy() {
            Box b = new Box();
            b.slots = slots;
            b.times = times.clone();
            b.drivePositions = new ArrayList<>(drivePositions);
            b.driveDiscs = new ArrayList<>(driveDiscs);
            b.used = new ArrayList<>(used);
            for (Disc d : discs) {
                Disc e = new Disc();
                e.home = d.home;
                e.capacity = d.capacity;
                e.spares = d.spares;
                e.end = d.end;
                e.open = d.open;
                for (Range r : d.sessions) {
                    Range q = new Range();
                    q.from = r.from;
                    q.size = r.size;
                    e.sessions.add(q);
                }
                e.bad.addAll(d.bad);
                b.discs.add(e);
            }
            for (List<Copy> file : files) {
                List<Copy> versions = new ArrayList<>();
                for (Copy c : file) {
                    Copy x = new Copy();
                    x.disc = c.disc;
                    x.start = c.start;
                    x.size = c.size;
                    x.session = c.session;
                    x.remapped = c.remapped;
                    x.damaged = c.damaged;
                    versions.add(x);
                }
                b.files.add(versions);
            }
            b.batch = new ArrayList<>(batch);
            b.picker = picker;
            b.clock = clock;
            b.exchanges = exchanges;
            b.travel = travel;
            return b;
        }

        void go(int position) {
            int way = Math.abs(picker - position);
            travel += way;
            clock += way * times[0];
            picker = position;
        }

        void grip() {
            clock += times[1];
        }

        void empty(int drive) {
            go(drivePositions.get(drive));
            grip();
            go(discs.get(driveDiscs.get(drive)).home);
            grip();
            driveDiscs.set(drive, -1);
        }

        void use(int drive) {
            used.remove(Integer.valueOf(drive));
            used.add(drive);
        }

        int choose(int disc) {
            if (driveDiscs.contains(disc)) {
                return driveDiscs.indexOf(disc);
            }
            if (driveDiscs.contains(-1)) {
                return driveDiscs.indexOf(-1);
            }
            for (int d = 0; d < driveDiscs.size(); d++) {
                if (!used.contains(d)) {
                    return d;
                }
            }
            return used.get(0);
        }

        void bring(int disc, int drive) {
            if (driveDiscs.get(drive) != disc) {
                if (driveDiscs.get(drive) != -1) {
                    empty(drive);
                }
                go(discs.get(disc).home);
                grip();
                go(drivePositions.get(drive));
                grip();
                clock += times[2];
                exchanges++;
                driveDiscs.set(drive, disc);
            }
            use(drive);
        }

        Copy last(int file) {
            return files.get(file).get(files.get(file).size() - 1);
        }

        void readIn(int file, int drive) {
            bring(last(file).disc, drive);
            for (int i = 0; i < last(file).size + last(file).remapped; i++) {
                clock += times[3];
            }
        }

        boolean closed(Copy c) {
            Disc d = discs.get(c.disc);
            return !(d.open && c.session == d.sessions.size() - 1);
        }

        boolean good(Copy c) {
            return closed(c) && !c.damaged;
        }

        boolean fits(int size, Disc d) {
            if (!d.open && d.sessions.size() == 8 || size > d.capacity - d.end) {
                return false;
            }
            return d.bad.stream().filter(s -> s >= d.end && s < d.end + size).count() <= d.spares;
        }

        void put(int file, int size, int disc) {
            Disc d = discs.get(disc);
            if (!d.open) {
                Range r = new Range();
                r.from = d.end;
                d.sessions.add(r);
                d.open = true;
            }
            Copy c = new Copy();
            c.disc = disc;
            c.start = d.end;
            c.size = size;
            c.session = d.sessions.size() - 1;
            for (int i = 0; i < size; i++) {
                if (d.bad.contains(d.end)) {
                    d.spares--;
                    c.remapped++;
                }
                d.end++;
                d.sessions.get(c.session).size++;
            }
            files.get(file).add(c);
        }

        int close(int disc) {
            Disc d = discs.get(disc);
            int leadOut = 0;
            while (leadOut < 2 && d.end < d.capacity) {
                leadOut++;
                d.end++;
                d.sessions.get(d.sessions.size() - 1).size++;
            }
            d.open = false;
            return leadOut;
        }

        void spoil(int disc, int sector) {
            discs.get(disc).bad.add(sector);
            for (List<Copy> file : files) {
                for (Copy c : file) {
                    if (c.disc == disc && sector >= c.start && sector < c.start + c.size) {
                        c.damaged = true;
                    }
                }
            }
        }

        int versions() {
            return files.stream().mapToInt(List::size).sum();
        }

        int badCount() {
            return discs.stream().mapToInt(d -> d.bad.size()).sum();
        }

        int discAtHome(int slot) {
            for (int p = 0; p < discs.size(); p++) {
                if (discs.get(p).home == slot) {
                    return p;
                }
            }
            return -1;
        }

        /** Serves the batch and answers the platters in the order in which they were brought. */
        List<Integer> serve() {
            List<Integer> left = new ArrayList<>();
            List<List<Integer>> mounted = new ArrayList<>();
            for (int d = 0; d < driveDiscs.size(); d++) {
                mounted.add(new ArrayList<>());
            }
            Set<Integer> away = new TreeSet<>();
            for (int file : batch) {
                int drive = driveDiscs.indexOf(last(file).disc);
                if (drive >= 0) {
                    mounted.get(drive).add(file);
                } else {
                    left.add(file);
                    away.add(last(file).disc);
                }
            }
            for (int d = 0; d < mounted.size(); d++) {
                for (int file : mounted.get(d)) {
                    readIn(file, d);
                }
            }
            List<Integer> best = new ArrayList<>();
            if (!left.isEmpty()) {
                int drive = choose(-2);
                int[] least = {Integer.MAX_VALUE};
                tryAll(new ArrayList<>(), new ArrayList<>(away), drive, best, least);
                for (int disc : best) {
                    bring(disc, drive);
                    for (int file : left) {
                        if (last(file).disc == disc) {
                            readIn(file, drive);
                        }
                    }
                }
            }
            batch.clear();
            return best;
        }

        /** The orders come in lexicographic order, so the first with the least time stays. */
        private void tryAll(List<Integer> done, List<Integer> open, int drive, List<Integer> best, int[] least) {
            if (open.isEmpty()) {
                int time = timeOf(done, drive);
                if (time < least[0]) {
                    least[0] = time;
                    best.clear();
                    best.addAll(done);
                }
                return;
            }
            for (int i = 0; i < open.size(); i++) {
                int disc = open.remove(i);
                done.add(disc);
                tryAll(done, open, drive, best, least);
                done.remove(done.size() - 1);
                open.add(i, disc);
            }
        }

        private int timeOf(List<Integer> order, int drive) {
            int at = picker;
            int time = 0;
            int inside = driveDiscs.get(drive);
            int position = drivePositions.get(drive);
            for (int disc : order) {
                if (inside >= 0) {
                    int home = discs.get(inside).home;
                    time += (Math.abs(at - position) + Math.abs(position - home)) * times[0] + 2 * times[1];
                    at = home;
                }
                int home = discs.get(disc).home;
                time += (Math.abs(at - home) + Math.abs(home - position)) * times[0] + 2 * times[1] + times[2];
                at = position;
                inside = disc;
            }
            return time;
        }
    }

    private Box box = new Box();
    private List<Box> past = new ArrayList<>();
    private List<Integer> buffer = new ArrayList<>();
    private int kind;
    private int place;
    private String output = "";

    // ---- text

    public int feed(int a, int b, int c, int d, int e) {
        if (buffer.size() > 880) {
            return FULL;
        }
        for (int four : new int[] {a, b, c, d, e}) {
            buffer.add(four >>> 24);
            buffer.add(four >>> 16 & 255);
            buffer.add(four >>> 8 & 255);
            buffer.add(four & 255);
        }
        return buffer.size();
    }

    private static final class Wrong extends Exception {
        private static final long serialVersionUID = 1L;
        final int kind;
        final int place;

        Wrong(int kind, int place) {
            this.kind = kind;
            this.place = place;
        }
    }

    private static final List<String> RESERVED =
            Arrays.asList("slots", "drive", "time", "platter", "bad", "file", "close");

    /** Tokens with their places; the last one is the empty text at the end. */
    private List<String> tokens;
    private List<Integer> places;
    private int next;

    private void cut(String text) {
        tokens = new ArrayList<>();
        places = new ArrayList<>();
        next = 0;
        java.util.regex.Matcher m =
                java.util.regex.Pattern.compile("[a-z]+|[0-9]+|[^ \\n]", java.util.regex.Pattern.DOTALL).matcher(text);
        while (m.find()) {
            tokens.add(m.group());
            places.add(m.start());
        }
        tokens.add("");
        places.add(text.length());
    }

    private String take(String pattern) throws Wrong {
        String token = tokens.get(next);
        if (!token.matches("[a-z]{1,8}|[0-9]{1,5}|;|")) {
            throw new Wrong(1, places.get(next));
        }
        if (!token.matches(pattern)) {
            throw new Wrong(2, places.get(next));
        }
        next++;
        return token;
    }

    private int number(int least, int most) throws Wrong {
        int value = Integer.parseInt(take("[0-9]+"));
        check(value >= least && value <= most, 3);
        return value;
    }

    /** Of the token that was taken last. */
    private void check(boolean fine, int kindOfError) throws Wrong {
        if (!fine) {
            throw new Wrong(kindOfError, places.get(next - 1));
        }
    }

    private Box parse(String text) throws Wrong {
        Box b = new Box();
        Set<String> names = new HashSet<>();
        cut(text);
        while (next < tokens.size() - 1) {
            boolean first = next == 0;
            switch (take("slots|drive|time|platter|bad|file|close")) {
                case "slots" -> {
                    check(first, 5);
                    b.slots = number(4, 24);
                }
                case "drive" -> {
                    check(b.drivePositions.size() < 4, 5);
                    b.drivePositions.add(number(0, b.slots - 1));
                    b.driveDiscs.add(-1);
                }
                case "time" -> b.times = new int[] {
                    number(0, 99), number(0, 99), number(0, 99), number(0, 99), number(0, 99)};
                case "platter" -> {
                    check(b.discs.size() < 10, 5);
                    Disc d = new Disc();
                    d.home = number(0, b.slots - 1);
                    check(b.discAtHome(d.home) < 0, 4);
                    d.capacity = number(10, 300);
                    d.spares = number(0, 9);
                    b.discs.add(d);
                }
                case "bad" -> {
                    check(b.badCount() < 20, 5);
                    int disc = number(0, b.discs.size() - 1);
                    int sector = number(0, b.discs.get(disc).capacity - 1);
                    check(!b.discs.get(disc).bad.contains(sector), 4);
                    b.spoil(disc, sector);
                }
                case "file" -> {
                    check(b.files.size() < 20, 5);
                    String name = take("[a-z]+");
                    check(!RESERVED.contains(name), 2);
                    check(names.add(name), 4);
                    int size = number(1, 300);
                    int disc = number(0, b.discs.size() - 1);
                    check(b.fits(size, b.discs.get(disc)), 6);
                    b.files.add(new ArrayList<>());
                    b.put(b.files.size() - 1, size, disc);
                }
                default -> {
                    int disc = number(0, b.discs.size() - 1);
                    check(b.discs.get(disc).open, 6);
                    b.close(disc);
                }
            }
            take(";");
        }
        return b;
    }

    public int load(int length) {
        if (length < 0 || length > buffer.size()) {
            return BAD_VALUE;
        }
        StringBuilder text = new StringBuilder();
        for (int i = 0; i < length; i++) {
            text.append((char) (int) buffer.get(i));
        }
        buffer.clear();
        kind = 0;
        try {
            box = parse(text.toString());
            past.clear();
            return box.files.size();
        } catch (Wrong wrong) {
            kind = wrong.kind;
            place = wrong.place;
            return BAD_TEXT;
        }
    }

    public int errorKind() {
        return kind;
    }

    public int errorPosition() {
        return kind == 0 ? NOT_FOUND : place;
    }

    // ---- places

    private static boolean in(int i, List<?> list) {
        return i >= 0 && i < list.size();
    }

    private boolean disc(int p) {
        return in(p, box.discs);
    }

    private boolean sector(int p, int s) {
        return disc(p) && s >= 0 && s < box.discs.get(p).capacity;
    }

    private boolean noDrives() {
        return box.drivePositions.isEmpty();
    }

    private static int orNotFound(int i) {
        return i < 0 ? NOT_FOUND : i;
    }

    public int homeSlot(int p) {
        return disc(p) ? box.discs.get(p).home : NO_INDEX;
    }

    public int platterInSlot(int slot) {
        if (slot < 0 || slot >= box.slots) {
            return NO_INDEX;
        }
        int p = box.discAtHome(slot);
        return p < 0 || box.driveDiscs.contains(p) ? NOT_FOUND : p;
    }

    public int driveOf(int p) {
        return disc(p) ? orNotFound(box.driveDiscs.indexOf(p)) : NO_INDEX;
    }

    public int platterInDrive(int d) {
        return in(d, box.driveDiscs) ? orNotFound(box.driveDiscs.get(d)) : NO_INDEX;
    }

    public int pickerPosition() {
        return box.picker;
    }

    public int clock() {
        return box.clock;
    }

    public int exchanges() {
        return box.exchanges;
    }

    public int travel() {
        return box.travel;
    }

    public int chosenDrive(int p) {
        return !disc(p) ? NO_INDEX : noDrives() ? NO_DRIVE : box.choose(p);
    }

    public int mountTime(int p) {
        if (!disc(p)) {
            return NO_INDEX;
        }
        return noDrives() ? NO_DRIVE : timeInto(p, box.choose(p));
    }

    private int timeInto(int p, int d) {
        Box what = box.copy();
        what.bring(p, d);
        return what.clock - box.clock;
    }

    public int mountTimeIn(int p, int d) {
        if (!disc(p) || !in(d, box.driveDiscs)) {
            return NO_INDEX;
        }
        int holder = box.driveDiscs.indexOf(p);
        return holder >= 0 && holder != d ? NOT_FOUND : timeInto(p, d);
    }

    // ---- platters

    public int freeSectors(int p) {
        return disc(p) ? box.discs.get(p).capacity - box.discs.get(p).end : NO_INDEX;
    }

    public int sessionCount(int p) {
        return disc(p) ? box.discs.get(p).sessions.size() : NO_INDEX;
    }

    public int hasOpenSession(int p) {
        return disc(p) ? box.discs.get(p).open ? 1 : 0 : NO_INDEX;
    }

    public int sessionStart(int p, int s) {
        return disc(p) && in(s, box.discs.get(p).sessions) ? box.discs.get(p).sessions.get(s).from : NO_INDEX;
    }

    public int sessionSize(int p, int s) {
        return disc(p) && in(s, box.discs.get(p).sessions) ? box.discs.get(p).sessions.get(s).size : NO_INDEX;
    }

    public int sparesLeft(int p) {
        return disc(p) ? box.discs.get(p).spares : NO_INDEX;
    }

    public int staleSectors(int p) {
        if (!disc(p)) {
            return NO_INDEX;
        }
        int stale = 0;
        for (int s = 0; s < box.discs.get(p).capacity; s++) {
            if (sectorKind(p, s) % 10 == 2) {
                stale++;
            }
        }
        return stale;
    }

    public int sectorKind(int p, int s) {
        if (!sector(p, s)) {
            return NO_INDEX;
        }
        int what = s < box.discs.get(p).end ? 3 : 0;
        for (List<Copy> file : box.files) {
            for (int v = 0; v < file.size(); v++) {
                Copy c = file.get(v);
                if (c.disc == p && s >= c.start && s < c.start + c.size) {
                    what = v == file.size() - 1 ? 1 : 2;
                }
            }
        }
        return what + (box.discs.get(p).bad.contains(s) ? 10 : 0);
    }

    public int fillBits(int p) {
        return disc(p) ? Float.floatToIntBits((float) box.discs.get(p).end / (float) box.discs.get(p).capacity) : NO_INDEX;
    }

    public int cleanRun(int p) {
        if (!disc(p)) {
            return NO_INDEX;
        }
        Disc d = box.discs.get(p);
        int longest = 0;
        for (int from = d.end; from < d.capacity; from++) {
            int to = from;
            while (to < d.capacity && !d.bad.contains(to)) {
                to++;
            }
            longest = Math.max(longest, to - from);
        }
        return longest;
    }

    public int bestPlatter(int size) {
        if (size < 1 || size > 300) {
            return BAD_VALUE;
        }
        if (noDrives()) {
            return NO_DRIVE;
        }
        int best = -1;
        for (int p = 0; p < box.discs.size(); p++) {
            if (box.fits(size, box.discs.get(p))) {
                long key = mountTime(p) * 1000L + freeSectors(p);
                if (best < 0 || key < mountTime(best) * 1000L + freeSectors(best)) {
                    best = p;
                }
            }
        }
        return orNotFound(best);
    }

    // ---- files

    public int versionCount(int f) {
        return in(f, box.files) ? box.files.get(f).size() : NO_INDEX;
    }

    public int filePlatter(int f) {
        return in(f, box.files) ? box.last(f).disc : NO_INDEX;
    }

    public int fileStart(int f) {
        return in(f, box.files) ? box.last(f).start : NO_INDEX;
    }

    public int fileSize(int f) {
        return in(f, box.files) ? box.last(f).size : NO_INDEX;
    }

    public int fileSession(int f) {
        return in(f, box.files) ? box.last(f).session : NO_INDEX;
    }

    public int remappedSectors(int f) {
        return in(f, box.files) ? box.last(f).remapped : NO_INDEX;
    }

    public int fileState(int f) {
        if (!in(f, box.files)) {
            return NO_INDEX;
        }
        return box.last(f).damaged ? 1 : box.closed(box.last(f)) ? 0 : 2;
    }

    public int readTime(int f) {
        if (!in(f, box.files)) {
            return NO_INDEX;
        }
        if (noDrives()) {
            return NO_DRIVE;
        }
        if (!box.good(box.last(f))) {
            return NOT_POSSIBLE;
        }
        Box what = box.copy();
        what.readIn(f, what.choose(what.last(f).disc));
        return what.clock - box.clock;
    }

    public int lastGoodVersion(int f) {
        if (!in(f, box.files)) {
            return NO_INDEX;
        }
        for (int v = box.files.get(f).size() - 1; v >= 0; v--) {
            if (box.good(box.files.get(f).get(v))) {
                return v;
            }
        }
        return NOT_FOUND;
    }

    public int fileOfSector(int p, int s) {
        if (!sector(p, s)) {
            return NO_INDEX;
        }
        for (int f = 0; f < box.files.size(); f++) {
            for (Copy c : box.files.get(f)) {
                if (c.disc == p && s >= c.start && s < c.start + c.size) {
                    return f;
                }
            }
        }
        return NOT_FOUND;
    }

    public int filesOn(int p) {
        if (!disc(p)) {
            return NO_INDEX;
        }
        int found = 0;
        for (int f = 0; f < box.files.size(); f++) {
            found += box.last(f).disc == p ? 1 : 0;
        }
        return found;
    }

    // ---- edits

    private int begin() {
        past.add(box.copy());
        if (past.size() > 16) {
            past.remove(0);
        }
        return box.clock;
    }

    public int mount(int p) {
        if (!disc(p) || noDrives()) {
            return disc(p) ? NO_DRIVE : NO_INDEX;
        }
        int before = begin();
        box.bring(p, box.choose(p));
        return box.clock - before;
    }

    public int eject(int d) {
        if (!in(d, box.driveDiscs)) {
            return NO_INDEX;
        }
        if (box.driveDiscs.get(d) < 0) {
            return NOT_FOUND;
        }
        int before = begin();
        box.empty(d);
        return box.clock - before;
    }

    public int read(int f) {
        int answer = readTime(f);
        if (answer >= 0) {
            begin();
            box.readIn(f, box.choose(box.last(f).disc));
        }
        return answer;
    }

    public int write(int f, int size, int p) {
        if (!in(f, box.files) || !disc(p)) {
            return NO_INDEX;
        }
        if (size < 1 || size > 300) {
            return BAD_VALUE;
        }
        if (box.versions() == 40) {
            return FULL;
        }
        if (noDrives()) {
            return NO_DRIVE;
        }
        if (!box.fits(size, box.discs.get(p))) {
            return NOT_POSSIBLE;
        }
        int before = begin();
        box.bring(p, box.choose(p));
        box.clock += size * box.times[4];
        box.put(f, size, p);
        return box.clock - before;
    }

    public int create(int size, int p) {
        if (!disc(p)) {
            return NO_INDEX;
        }
        if (size < 1 || size > 300) {
            return BAD_VALUE;
        }
        if (box.files.size() == 20 || box.versions() == 40) {
            return FULL;
        }
        if (noDrives()) {
            return NO_DRIVE;
        }
        if (!box.fits(size, box.discs.get(p))) {
            return NOT_POSSIBLE;
        }
        begin();
        box.bring(p, box.choose(p));
        box.clock += size * box.times[4];
        box.files.add(new ArrayList<>());
        box.put(box.files.size() - 1, size, p);
        return box.files.size() - 1;
    }

    public int closeSession(int p) {
        if (!disc(p)) {
            return NO_INDEX;
        }
        if (!box.discs.get(p).open) {
            return NOT_FOUND;
        }
        if (noDrives()) {
            return NO_DRIVE;
        }
        begin();
        box.bring(p, box.choose(p));
        int leadOut = box.close(p);
        box.clock += leadOut * box.times[4];
        return leadOut;
    }

    public int markBad(int p, int s) {
        if (!sector(p, s)) {
            return NO_INDEX;
        }
        if (box.discs.get(p).bad.contains(s)) {
            return UNCHANGED;
        }
        if (box.badCount() == 20) {
            return FULL;
        }
        begin();
        box.spoil(p, s);
        int damaged = 0;
        for (List<Copy> file : box.files) {
            for (Copy c : file) {
                damaged += c.damaged ? 1 : 0;
            }
        }
        return damaged;
    }

    public int moveHome(int p, int slot) {
        if (!disc(p) || slot < 0 || slot >= box.slots) {
            return NO_INDEX;
        }
        int home = box.discs.get(p).home;
        if (home == slot) {
            return UNCHANGED;
        }
        if (box.driveDiscs.contains(p)) {
            return NOT_FOUND;
        }
        if (box.discAtHome(slot) >= 0) {
            return FULL;
        }
        begin();
        box.discs.get(p).home = slot;
        return home;
    }

    public int setTimes(int move, int grip, int spin, int read, int write) {
        int[] wanted = {move, grip, spin, read, write};
        for (int time : wanted) {
            if (time < 0 || time > 99) {
                return BAD_VALUE;
            }
        }
        if (Arrays.equals(wanted, box.times)) {
            return UNCHANGED;
        }
        begin();
        int sum = Arrays.stream(box.times).sum();
        box.times = wanted;
        return sum;
    }

    public int request(int f) {
        if (!in(f, box.files)) {
            return NO_INDEX;
        }
        if (!box.good(box.last(f))) {
            return NOT_POSSIBLE;
        }
        if (box.batch.size() == 16) {
            return FULL;
        }
        begin();
        box.batch.add(f);
        return box.batch.size();
    }

    public int dropRequest(int r) {
        if (!in(r, box.batch)) {
            return NO_INDEX;
        }
        begin();
        return box.batch.remove(r);
    }

    public int serveBatch() {
        int problem = batchProblem(1);
        if (problem != 0) {
            return problem;
        }
        int before = begin();
        box.serve();
        return box.clock - before;
    }

    public int undo() {
        if (past.isEmpty()) {
            return NOT_FOUND;
        }
        box = past.remove(past.size() - 1);
        return past.size();
    }

    // ---- batches

    private int batchProblem(int fewest) {
        if (box.batch.size() < fewest) {
            return NOT_FOUND;
        }
        if (noDrives()) {
            return NO_DRIVE;
        }
        return box.batch.stream().allMatch(f -> box.good(box.last(f))) ? 0 : NOT_POSSIBLE;
    }

    public int requestedFile(int r) {
        return in(r, box.batch) ? box.batch.get(r) : NO_INDEX;
    }

    public int batchTime() {
        int problem = batchProblem(1);
        if (problem != 0) {
            return problem;
        }
        Box what = box.copy();
        what.serve();
        return what.clock - box.clock;
    }

    public int batchExchanges() {
        int problem = batchProblem(1);
        return problem != 0 ? problem : box.copy().serve().size();
    }

    public int batchPlatter(int i) {
        int problem = batchProblem(1);
        if (problem != 0) {
            return problem;
        }
        List<Integer> order = box.copy().serve();
        return in(i, order) ? order.get(i) : NO_INDEX;
    }

    /** All of batchPlatter() at once, for a batch that can be served. */
    List<Integer> batchOrder() {
        return box.copy().serve();
    }

    public int oneByOneTime() {
        int problem = batchProblem(1);
        if (problem != 0) {
            return problem;
        }
        Box what = box.copy();
        for (int f : box.batch) {
            what.readIn(f, what.choose(what.last(f).disc));
        }
        return what.clock - box.clock;
    }

    public int leastTimeWithoutOne() {
        int problem = batchProblem(2);
        if (problem != 0) {
            return problem;
        }
        int least = Integer.MAX_VALUE;
        for (int r = 0; r < box.batch.size(); r++) {
            Box what = box.copy();
            what.batch.remove(r);
            what.serve();
            least = Math.min(least, what.clock - box.clock);
        }
        return least;
    }

    public int nearestHome(int p) {
        if (!disc(p)) {
            return NO_INDEX;
        }
        if (noDrives()) {
            return NO_DRIVE;
        }
        for (int distance = 0; distance < 24; distance++) {
            for (int slot = 0; slot < box.slots; slot++) {
                int owner = box.discAtHome(slot);
                if (owner < 0 || owner == p) {
                    for (int position : box.drivePositions) {
                        if (Math.abs(slot - position) == distance) {
                            return slot;
                        }
                    }
                }
            }
        }
        throw new IllegalStateException("no slot at all");
    }

    // ---- output

    public int writeCatalogue() {
        output = "";
        for (int f = 0; f < box.files.size(); f++) {
            Copy c = box.last(f);
            output += f + ":" + c.disc + "," + c.start + "," + c.size + (box.good(c) ? "*" : "") + ";";
        }
        return output.length();
    }

    public int outputByte(int i) {
        return i < 0 || i >= output.length() ? NO_INDEX : output.charAt(i);
    }
}
