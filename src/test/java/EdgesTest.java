import java.lang.reflect.Method;
import java.nio.file.Files;
import java.nio.file.Path;
import java.util.Arrays;
import java.util.Comparator;
import java.util.TreeMap;

/**
 * Runs the tests of the document's boundary cases: each method promiseNN_.. of the classes below is
 * one, for the sentence that stands at it. Each promise must have some.
 */
public final class EdgesTest {
    private static final Class<?>[] TESTS = {
        LandEdges.class, HoursEdges.class, ToldEdges.class, RestEdges.class, SoughtEdges.class,
        RowsEdges.class,
    };
    private static final int PROMISES = 39;
    private static final Path DOCUMENT = Path.of("../shared/DOC.md");

    public static void main(String[] args) throws Exception {
        TreeMap<Integer, Integer> tests = new TreeMap<>();
        int failed = 0;
        String document = Files.isReadable(DOCUMENT) ? plain(Files.readString(DOCUMENT)) : "";
        for (Class<?> c : TESTS) {
            Method[] methods = c.getDeclaredMethods();
            Arrays.sort(methods, Comparator.comparing(Method::getName));
            for (Method m : methods) {
                if (m.getName().startsWith("promise")) {
                    tests.merge(promiseOf(m), 1, Integer::sum);
                    failed += passes(m) ? 0 : 1;
                    tellIfGone(m, document);
                }
            }
        }
        for (int promise = 1; promise <= PROMISES; promise++) {
            if (!tests.containsKey(promise)) {
                System.out.println("no test of promise " + promise);
                failed++;
            }
        }
        int sum = tests.values().stream().mapToInt(Integer::intValue).sum();
        System.out.println(failed == 0 ? "all " + sum + " tests hold, " + Calls.calls + " answers"
                : failed + " of " + sum + " tests fail");
        if (failed != 0) {
            System.exit(1);
        }
    }

    private static int promiseOf(Method m) {
        if (!m.getName().matches("promise\\d\\d_\\w+") || m.getAnnotation(Says.class) == null) {
            throw new IllegalStateException("neither a promise's number nor its sentence: " + m);
        }
        return Integer.parseInt(m.getName().substring(7, 9));
    }

    private static boolean passes(Method m) throws Exception {
        Calls.name = m.getName();
        int wrong = Calls.wrong;
        int calls = Calls.calls;
        m.setAccessible(true);
        m.invoke(null);
        if (Calls.calls == calls) {
            System.out.println(m.getName() + " asks nothing");
            return false;
        }
        if (Calls.wrong != wrong) {
            System.out.println("    " + m.getName() + ": " + m.getAnnotation(Says.class).value());
        }
        return Calls.wrong == wrong;
    }

    /** A sentence that the document has no more is no fault of the class, but must be looked at. */
    private static void tellIfGone(Method m, String document) {
        String says = plain(m.getAnnotation(Says.class).value());
        if (!document.isEmpty() && !document.contains(says)) {
            System.out.println("no longer in the document: " + m.getName() + ": " + says);
        }
    }

    private static String plain(String text) {
        return text.replaceAll("\\s+", " ").trim();
    }
}
