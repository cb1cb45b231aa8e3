import java.lang.reflect.InvocationTargetException;
import java.lang.reflect.Method;
import java.nio.file.Files;
import java.nio.file.Path;
import java.util.ArrayList;
import java.util.Comparator;
import java.util.List;
import java.util.regex.Matcher;
import java.util.regex.Pattern;

/**
 * Runs the boundary tests: each is a method named by its promise's number, about words of the
 * document that it quotes. A quote must stand in the promise's section or in what the promises
 * share, and each clause of a promise that names an error code must be quoted by a test of that
 * promise. The arguments are the project's folder and the shared one.
 */
public final class BoundariesTest {
    private static final int PROMISES = 60;
    private static final Pattern NAME = Pattern.compile("promise(\\d\\d)_\\w+");
    private static final Pattern CODE = Pattern.compile(
            "\\b(NO_INDEX|BAD_VALUE|FULL|UNCHANGED|NOT_FOUND|BAD_TEXT|NO_DRIVE|NOT_POSSIBLE)\\b");
    private static final List<Class<?>> TESTS = List.of(TextBoundaries.class, PlaceBoundaries.class,
            PlatterBoundaries.class, FileBoundaries.class, EditBoundaries.class, BatchBoundaries.class);

    private final String shared;
    private final String[] sections = new String[PROMISES + 1];
    private final List<List<String>> quotes = new ArrayList<>();

    private BoundariesTest(String document) {
        String plain = document.replaceAll("\\s+", " ");
        String[] parts = plain.split("## Promise \\d+: ");
        shared = parts[0];
        for (int promise = 1; promise <= PROMISES; promise++) {
            sections[promise] = promise < parts.length ? parts[promise].split("## Not promised")[0] : "";
            quotes.add(new ArrayList<>());
        }
        quotes.add(new ArrayList<>());
    }

    public static void main(String[] args) throws Exception {
        Path folder = Path.of(args.length > 1 ? args[1] : "../shared");
        BoundariesTest all = new BoundariesTest(Files.readString(folder.resolve("DOC.md")));
        int tests = 0;
        for (Class<?> type : TESTS) {
            for (Method test : testsOf(type)) {
                all.run(test);
                tests++;
            }
        }
        Checks.begin("the document");
        all.checkThatClausesAreQuoted();
        System.out.println(tests + " boundary tests, " + Checks.wrongInAll() + " checks failed");
        if (Checks.wrongInAll() != 0) {
            System.exit(1);
        }
    }

    private static List<Method> testsOf(Class<?> type) {
        List<Method> tests = new ArrayList<>();
        for (Method m : type.getDeclaredMethods()) {
            if (NAME.matcher(m.getName()).matches()) {
                tests.add(m);
            }
        }
        tests.sort(Comparator.comparing(Method::getName));
        return tests;
    }

    private void run(Method test) throws IllegalAccessException {
        Checks.begin(test.getName());
        Matcher name = NAME.matcher(test.getName());
        Sentence sentence = test.getAnnotation(Sentence.class);
        if (!name.matches() || sentence == null) {
            Checks.fail("quotes no sentence");
            return;
        }
        int promise = Integer.parseInt(name.group(1));
        for (String quote : sentence.value()) {
            if (!sections[promise].contains(quote) && !shared.contains(quote)) {
                Checks.fail("the document does not say: " + quote);
            }
            quotes.get(promise).add(quote);
        }
        try {
            test.invoke(null);
        } catch (InvocationTargetException e) {
            Checks.fail("threw " + e.getCause());
        }
        if (Checks.checksOfTheTest() == 0) {
            Checks.fail("checks nothing");
        }
    }

    private void checkThatClausesAreQuoted() {
        for (int promise = 1; promise <= PROMISES; promise++) {
            if (quotes.get(promise).isEmpty()) {
                Checks.fail("promise " + promise + " has no boundary test");
            }
            for (String part : sections[promise].split(";|\\. ")) {
                String clause = part.trim();
                if (CODE.matcher(clause).find() && !isQuoted(promise, clause)) {
                    Checks.fail("promise " + promise + " has no boundary test for: " + clause);
                }
            }
        }
    }

    private boolean isQuoted(int promise, String clause) {
        for (String quote : quotes.get(promise)) {
            if (CODE.matcher(quote).find() && (clause.contains(quote) || quote.contains(clause))) {
                return true;
            }
        }
        return false;
    }
}
