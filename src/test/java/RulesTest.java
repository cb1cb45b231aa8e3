import java.lang.management.ManagementFactory;
import java.lang.reflect.Constructor;
import java.lang.reflect.Field;
import java.lang.reflect.Member;
import java.lang.reflect.Method;
import java.lang.reflect.Modifier;
import java.nio.file.Files;
import java.nio.file.Path;
import java.util.ArrayList;
import java.util.Arrays;
import java.util.HashSet;
import java.util.List;
import java.util.Set;
import java.util.TreeSet;
import java.util.regex.Matcher;
import java.util.regex.Pattern;

/**
 * What LANGUAGE.md asks of the class and a machine can see: the face is that of the document, the
 * shape of the classes, words that must not stand in the source, and how much a run of calls makes.
 * The arguments are the project's folder and the shared one.
 */
public final class RulesTest {
    private static int wrong;

    private static void hold(boolean fine, String what) {
        if (!fine) {
            wrong++;
            System.out.println("broken: " + what);
        }
    }

    public static void main(String[] args) throws Exception {
        Path project = Path.of(args.length > 0 ? args[0] : ".");
        Path shared = Path.of(args.length > 1 ? args[1] : "../shared");
        String source = Files.readString(project.resolve("src/main/java/OpticalJukebox.java"));
        face(Files.readString(shared.resolve("DOC.md")));
        shapes();
        words(source);
        methodLengths(source);
        whatARunMakes();
        System.out.println(wrong == 0 ? "all rules hold" : wrong + " rules are broken");
        if (wrong != 0) {
            System.exit(1);
        }
    }

    private static void face(String document) {
        Set<String> due = new TreeSet<>();
        Matcher line = Pattern.compile("(?m)^    public ([^;]*);$").matcher(document);
        while (line.find()) {
            due.add(line.group(1).replaceAll("(int|,|\\() ?\\w+(?=[,)])", "$1"));
        }
        Set<String> got = new TreeSet<>();
        List<Member> hidden = new ArrayList<>();
        for (Constructor<?> c : OpticalJukebox.class.getDeclaredConstructors()) {
            (Modifier.isPublic(c.getModifiers()) ? got : new TreeSet<String>()).add("OpticalJukebox" + list(c.getParameterTypes()));
        }
        for (Method m : OpticalJukebox.class.getDeclaredMethods()) {
            if (Modifier.isPublic(m.getModifiers())) {
                got.add(m.getReturnType() + " " + m.getName() + list(m.getParameterTypes()));
            } else {
                hidden.add(m);
            }
        }
        for (Field f : OpticalJukebox.class.getDeclaredFields()) {
            if (Modifier.isPublic(f.getModifiers())) {
                got.add("static final int " + f.getName() + " = " + constant(f));
            } else {
                hidden.add(f);
            }
        }
        hold(due.size() == 68, "the document's face has 68 lines, found were " + due.size());
        Set<String> more = new TreeSet<>(got);
        more.removeAll(due);
        due.removeAll(got);
        hold(due.isEmpty(), "the face lacks " + due);
        hold(more.isEmpty(), "the face has besides " + more);
        for (Member m : hidden) {
            hold(Modifier.isPrivate(m.getModifiers()), m.getName() + " is not private");
        }
        hold(Modifier.isFinal(OpticalJukebox.class.getModifiers()), "the class is final");
    }

    private static String list(Class<?>[] types) {
        return Arrays.toString(types).replace("[", "(").replace("]", ")");
    }

    private static int constant(Field f) {
        try {
            return f.getInt(null);
        } catch (IllegalAccessException e) {
            throw new IllegalStateException(e);
        }
    }

    private static void shapes() {
        Set<String> names = new HashSet<>();
        for (Method m : OpticalJukebox.class.getDeclaredMethods()) {
            if (Modifier.isPublic(m.getModifiers())) {
                names.add(m.getName());
            }
        }
        List<Class<?>> classes = new ArrayList<>(List.of(OpticalJukebox.class.getDeclaredClasses()));
        hold(classes.size() < 12, "there are at most twelve classes");
        for (Class<?> c : classes) {
            hold(Modifier.isStatic(c.getModifiers()) && Modifier.isPrivate(c.getModifiers()), c + " is private and static");
            for (Method m : c.getDeclaredMethods()) {
                hold(!names.contains(m.getName()), c + "." + m.getName() + " bears the name of a public method");
            }
        }
        classes.add(OpticalJukebox.class);
        for (Class<?> c : classes) {
            int fields = 0;
            for (Field f : c.getDeclaredFields()) {
                hold(!Modifier.isStatic(f.getModifiers()) || Modifier.isFinal(f.getModifiers()), f + " is final");
                fields += Modifier.isStatic(f.getModifiers()) ? 0 : 1;
            }
            hold(fields <= 20, c + " has at most twenty fields");
            for (Method m : c.getDeclaredMethods()) {
                hold(m.getParameterCount() <= 7, m + " has at most seven parameters");
                hold(Modifier.isPublic(m.getModifiers()) || !names.contains(m.getName()), m + " bears a public name");
            }
        }
    }

    private static void words(String source) {
        String code = source.replaceAll("(?s)/\\*.*?\\*/", "").replaceAll("//[^\\n]*", "").replaceAll("\"[^\"]*\"", "\"\"");
        for (String word : new String[] {"catch", "try", "throw", "throws", "finally", "synchronized", "assert", "package",
            "instanceof", "Object", "Random", "Thread", "Exact", "float", "double", "Float", "Double", "new int\\[\\]\\["}) {
            hold(!Pattern.compile("\\b" + word).matcher(code).find(), "the source has " + word);
        }
        hold(!code.contains("->") && !code.contains("::"), "no lambda and no method reference");
        hold(code.split("\\bimport\\b", -1).length == 2 && code.contains("import java.util.Arrays;"), "the one import");
        Matcher library = Pattern.compile("\\b(Arrays|System|Math|Integer|Long|String|StringBuilder)\\.(\\w+)").matcher(code);
        Set<String> allowed = Set.of("Arrays.fill", "System.arraycopy", "Math.abs", "Math.min", "Math.max", "Integer.MAX_VALUE");
        while (library.find()) {
            hold(allowed.contains(library.group()), "the source uses " + library.group());
        }
        for (int i = 0; i < source.length(); i++) {
            hold(source.charAt(i) < 127 && source.charAt(i) != '\t', "plain signs alone, at " + i);
        }
    }

    private static void methodLengths(String source) {
        String[] lines = source.split("\n");
        int begun = 0;
        for (int i = 0; i < lines.length; i++) {
            if (lines[i].matches(" {4,8}[a-zA-Z].*\\(.*\\) \\{")) {
                begun = i;
            }
            if (lines[i].matches(" {4,8}\\}")) {
                hold(i - begun <= 60 || lines[i].startsWith("    }"), "a method of over sixty lines ends at line " + (i + 1));
            }
            hold(lines[i].length() <= 110, "line " + (i + 1) + " is too long");
        }
    }

    /** A run has one room of 7.3 million fields and elements; a hundredth of it is asked for here. */
    private static void whatARunMakes() {
        com.sun.management.ThreadMXBean bean = (com.sun.management.ThreadMXBean) ManagementFactory.getThreadMXBean();
        long id = Thread.currentThread().getId();
        dearRun();
        long before = bean.getThreadAllocatedBytes(id);
        int calls = dearRun();
        long made = bean.getThreadAllocatedBytes(id) - before;
        hold(calls == 512, "the run has 512 calls, not " + calls);
        hold(made < 8 * 73_000, "a run makes " + made + " bytes");
        System.out.println("a run of 512 calls makes " + made + " bytes");
    }

    private static int dearRun() {
        OpticalJukebox x = new OpticalJukebox();
        int calls = 0;
        byte[] text = TEXT;
        for (int at = 0; at < text.length; at += 20, calls++) {
            x.feed(four(text, at), four(text, at + 4), four(text, at + 8), four(text, at + 12), four(text, at + 16));
        }
        hold(x.load(text.length) == 10, "the text of the run is legal");
        calls++;
        for (; calls < 512; calls++) {
            int step = calls % 64;
            if (step < 16) {
                x.request(calls % 10);
            } else if (step < 24) {
                x.leastTimeWithoutOne();
            } else if (step < 28) {
                x.oneByOneTime();
            } else if (step < 32) {
                x.batchPlatter(step);
            } else if (step == 32) {
                x.serveBatch();
            } else if (step < 40) {
                x.create(1, step % 10);
            } else if (step < 44) {
                x.markBad(step % 10, calls % 10);
            } else if (step < 48) {
                x.writeCatalogue();
            } else {
                x.undo();
            }
        }
        return calls;
    }

    private static final byte[] TEXT = textOfTenPlatters();

    private static byte[] textOfTenPlatters() {
        StringBuilder text = new StringBuilder("slots 24;drive 7;");
        for (int p = 0; p < 10; p++) {
            text.append("platter ").append(p * 2).append(" 40 3;file ").append((char) ('a' + p)).append(" 3 ").append(p)
                    .append(";close ").append(p).append(";");
        }
        return text.toString().getBytes(java.nio.charset.StandardCharsets.ISO_8859_1);
    }

    private static int four(byte[] text, int at) {
        int all = 0;
        for (int i = at; i < at + 4; i++) {
            all = all << 8 | (i < text.length ? text[i] : ' ');
        }
        return all;
    }
}
