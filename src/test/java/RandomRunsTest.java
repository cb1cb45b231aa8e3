import java.lang.reflect.InvocationTargetException;
import java.lang.reflect.Method;
import java.lang.reflect.Modifier;
import java.util.ArrayList;
import java.util.Comparator;
import java.util.List;
import java.util.Map;
import java.util.Random;
import java.util.TreeMap;

/** Random runs of 512 calls, of which each must answer what PlainJukebox answers. The seeds are fixed. */
public final class RandomRunsTest {
    private static final int RUNS = 1500;
    private static final int CALLS = 512;
    private static final List<String> QUIET = List.of("feed", "load");

    private final Random random;
    private final OpticalJukebox real = new OpticalJukebox();
    private final PlainJukebox plain = new PlainJukebox();
    private final List<String> calls = new ArrayList<>();
    private final Map<String, Method> realMethods;
    private final Map<String, Method> plainMethods;
    private final Map<String, Integer> answered;
    private boolean same = true;

    RandomRunsTest(long seed, Map<String, Method> real, Map<String, Method> plain, Map<String, Integer> answered) {
        random = new Random(seed);
        realMethods = real;
        plainMethods = plain;
        this.answered = answered;
    }

    public static void main(String[] args) throws Exception {
        int runs = args.length > 2 ? Integer.parseInt(args[2]) : RUNS;
        Map<String, Method> real = methodsOf(OpticalJukebox.class);
        Map<String, Method> plain = methodsOf(PlainJukebox.class);
        Map<String, Integer> answered = new TreeMap<>();
        int wrong = 0;
        for (int seed = 0; seed < runs && wrong < 5; seed++) {
            RandomRunsTest run = new RandomRunsTest(seed, real, plain, answered);
            if (!run.run()) {
                wrong++;
                System.out.println("seed " + seed + ":");
                run.calls.subList(Math.max(0, run.calls.size() - 60), run.calls.size()).forEach(System.out::println);
            }
        }
        System.out.println(runs + " random runs, " + wrong + " wrong");
        if (args.length > 3) {
            answered.forEach((what, times) -> System.out.println(times + " " + what));
        }
        if (wrong != 0) {
            System.exit(1);
        }
    }

    private static Map<String, Method> methodsOf(Class<?> type) {
        Map<String, Method> methods = new TreeMap<>(Comparator.naturalOrder());
        for (Method m : type.getDeclaredMethods()) {
            if (Modifier.isPublic(m.getModifiers()) && !Modifier.isStatic(m.getModifiers())) {
                methods.put(m.getName(), m);
            }
        }
        return methods;
    }

    private int call(String name, int... args) {
        Object[] boxed = new Object[args.length];
        StringBuilder told = new StringBuilder(name + "(");
        for (int i = 0; i < args.length; i++) {
            boxed[i] = args[i];
            told.append(i > 0 ? ", " : "").append(args[i]);
        }
        told.append(")");
        try {
            int got = (Integer) realMethods.get(name).invoke(real, boxed);
            int want = (Integer) plainMethods.get(name).invoke(plain, boxed);
            calls.add(told + " answered " + got + (got == want ? "" : ", due is " + want));
            same &= got == want;
            answered.merge(name + " " + (want < 0 ? want : "fine"), 1, Integer::sum);
            return want;
        } catch (InvocationTargetException | IllegalAccessException e) {
            calls.add(told + " threw " + e.getCause());
            same = false;
            return 0;
        }
    }

    private boolean run() {
        loadText(random.nextInt(4) == 0 ? spoiltText() : new TextMaker().text());
        List<String> names = new ArrayList<>(realMethods.keySet());
        names.removeAll(QUIET);
        boolean batchHeavy = random.nextInt(2) == 0;
        while (calls.size() < CALLS && same) {
            int dice = random.nextInt(100);
            if (dice < 1) {
                loadText(random.nextInt(3) > 0 ? new TextMaker().text() : spoiltText());
            } else if (dice < (batchHeavy ? 25 : 40)) {
                callOf(batchHeavy ? "request" : random.nextInt(3) == 0 ? "create" : "write");
            } else if (dice < 50) {
                callOf(random.nextInt(2) == 0 ? "closeSession" : "mount");
            } else {
                callOf(names.get(random.nextInt(names.size())));
            }
        }
        return same;
    }

    private void callOf(String name) {
        switch (name) {
            case "setTimes" -> {
                int top = random.nextInt(5) == 0 ? 101 : 3;
                call(name, under(top), under(top), under(top), under(top), under(top));
            }
            case "write" -> call(name, under(21), size(), under(11));
            case "create" -> call(name, size(), under(11));
            case "bestPlatter" -> call(name, size());
            case "sessionStart", "sessionSize" -> call(name, under(11), under(9));
            case "sectorKind", "fileOfSector", "markBad" -> call(name, under(11), sector());
            case "moveHome" -> call(name, under(11), under(25));
            case "mountTimeIn" -> call(name, under(11), under(5));
            case "platterInSlot" -> call(name, under(25));
            case "platterInDrive", "eject" -> call(name, under(5));
            case "outputByte" -> call(name, under(random.nextBoolean() ? 30 : 290));
            case "requestedFile", "dropRequest" -> call(name, under(17));
            default -> {
                int count = realMethods.get(name).getParameterCount();
                if (count == 0) {
                    call(name);
                } else {
                    call(name, under(name.endsWith("Platter") ? 6 : parameterIsFile(name) ? 21 : 11));
                }
            }
        }
    }

    private static boolean parameterIsFile(String name) {
        return List.of("versionCount", "filePlatter", "fileStart", "fileSize", "fileSession", "remappedSectors",
                "fileState", "readTime", "lastGoodVersion", "read", "request").contains(name);
    }

    /** Mostly 0 to limit - 1, with low numbers oftener, and now and then a number that no limit allows. */
    private int under(int limit) {
        int dice = random.nextInt(40);
        if (dice == 0) {
            int[] odd = {-1, limit, Integer.MIN_VALUE, Integer.MAX_VALUE, -1000001, limit + 1};
            return odd[random.nextInt(odd.length)];
        }
        return dice < 12 ? random.nextInt(limit) : random.nextInt(Math.min(limit, 6));
    }

    private int size() {
        int dice = random.nextInt(30);
        if (dice == 0) {
            return new int[] {0, 301, -5, 300, 1, Integer.MAX_VALUE}[random.nextInt(6)];
        }
        return dice < 5 ? 1 + random.nextInt(300) : 1 + random.nextInt(8);
    }

    private int sector() {
        return random.nextInt(4) == 0 ? under(300) : under(30);
    }

    private void loadText(String text) {
        int padded = (text.length() + 19) / 20 * 20;
        StringBuilder bytes = new StringBuilder(text);
        while (bytes.length() < padded) {
            bytes.append((char) random.nextInt(256));
        }
        if (random.nextInt(20) == 0) {
            call("load", padded + 1);
        }
        for (int at = 0; at < padded; at += 20) {
            int[] five = new int[5];
            for (int i = 0; i < 20; i++) {
                five[i / 4] = five[i / 4] << 8 | bytes.charAt(at + i);
            }
            call("feed", five);
        }
        call("load", text.length());
        call("errorKind");
        call("errorPosition");
    }

    private String spoiltText() {
        StringBuilder text = new StringBuilder(new TextMaker().text());
        if (text.length() == 0) {
            return "x";
        }
        int at = random.nextInt(text.length());
        switch (random.nextInt(6)) {
            case 0 -> text.setLength(at);
            case 1 -> text.setCharAt(at, (char) random.nextInt(256));
            case 2 -> text.insert(at, " 0a;z9\n".charAt(random.nextInt(7)));
            case 3 -> text.deleteCharAt(at);
            case 4 -> text.insert(at, new String[] {"slots 5;", "file", " 999 ", "aaaaaaaaa", "000000", "close 0;"}[random.nextInt(6)]);
            default -> text.append(new TextMaker().text());
        }
        if (text.length() > 900) {
            text.setLength(900);
        }
        return text.toString();
    }

    /** Makes texts that are mostly legal and touch the limits of the document. */
    private final class TextMaker {
        private final StringBuilder text = new StringBuilder();
        private int slots = 12;
        private final List<Integer> capacities = new ArrayList<>();

        String text() {
            if (random.nextInt(20) == 0) {
                return "";
            }
            if (random.nextInt(3) > 0) {
                slots = 4 + random.nextInt(21);
                statement("slots", slots);
            }
            int drives = random.nextInt(8) == 0 ? random.nextInt(6) : 1 + random.nextInt(4);
            for (int d = 0; d < drives; d++) {
                statement("drive", random.nextInt(slots));
            }
            if (random.nextInt(2) == 0) {
                statement("time", random.nextInt(3), random.nextInt(3), random.nextInt(3), random.nextInt(100), random.nextInt(100));
            }
            addPlatters();
            addFiles();
            return text.length() > 900 ? text.substring(0, text.lastIndexOf(";", 899) + 1) : text.toString();
        }

        private void addPlatters() {
            List<Integer> homes = new ArrayList<>();
            for (int s = 0; s < slots; s++) {
                homes.add(s);
            }
            int count = Math.min(slots, random.nextInt(60) == 0 ? 11 : 1 + random.nextInt(7));
            boolean small = random.nextInt(3) == 0;
            for (int p = 0; p < count; p++) {
                int capacity = small ? 10 + random.nextInt(20) : 10 + random.nextInt(291);
                capacities.add(capacity);
                statement("platter", homes.remove(random.nextInt(homes.size())), capacity, random.nextInt(4));
            }
        }

        /** Only now and then a session is closed that is not open, or a file is too large. */
        private void addFiles() {
            boolean[] open = new boolean[capacities.size()];
            int[] used = new int[capacities.size()];
            int count = random.nextInt(40) == 0 ? 25 : random.nextInt(18);
            boolean badHeavy = random.nextInt(15) == 0;
            for (int f = 0; f < count; f++) {
                int p = random.nextInt(capacities.size());
                int size = 1 + random.nextInt(4);
                if (badHeavy || random.nextInt(6) == 0) {
                    statement("bad", p, random.nextInt(Math.min(badHeavy ? 300 : 30, capacities.get(p))));
                }
                if (used[p] + size <= capacities.get(p) || random.nextInt(30) == 0) {
                    statement("file " + (char) ('a' + f), size, p);
                    used[p] += size;
                    open[p] = true;
                }
                if (open[p] && random.nextInt(3) > 0 || random.nextInt(300) == 0) {
                    statement("close", p);
                    used[p] += 2;
                    open[p] = false;
                }
            }
            for (int p = 0; p < open.length; p++) {
                if (open[p] && random.nextInt(3) > 0) {
                    statement("close", p);
                }
            }
        }

        private void statement(String word, int... numbers) {
            text.append(word);
            for (int n : numbers) {
                text.append(random.nextInt(9) == 0 ? "\n" : " ").append(random.nextInt(30) == 0 ? "0" : "").append(n);
            }
            text.append(random.nextInt(9) == 0 ? " ;\n" : ";");
        }
    }
}
