import java.lang.reflect.InvocationTargetException;
import java.lang.reflect.Method;
import java.util.List;
import java.util.Map;
import java.util.TreeMap;
import java.util.function.Supplier;
import java.util.function.ToLongFunction;

/** Runs tests, counts answers that are not as due, and ends with exit code 1 if there was one. */
final class Check {
    private static final String TERMS = "terms_";
    // One fault may turn thousands of answers; the first of them say enough.
    private static final int TOLD = 200;

    private static String test = "";
    private static int tests = 0;
    private static int wrong = 0;
    private static int seen = 0;

    private Check() {
    }

    static void due(String call, long got, long want) {
        seen++;
        if (got != want) {
            tell(call + " answered " + got + ", due is " + want);
        }
    }

    private static void tell(String what) {
        wrong++;
        if (wrong <= TOLD) {
            System.out.println(test + ": " + what);
        }
    }

    /** A call that is due to be refused, and to leave all that can be seen of the store as it was. */
    static void refused(String call, Supplier<ShareStore> scene, ToLongFunction<ShareStore> made, long want) {
        due(call, made.applyAsLong(scene.get()), want);
        List<String> before = Snapshot.of(scene);
        List<String> after = Snapshot.of(() -> {
            ShareStore store = scene.get();
            made.applyAsLong(store);
            return store;
        });
        seen++;
        for (int i = 0; i < before.size(); i++) {
            if (!before.get(i).equals(after.get(i))) {
                tell(call + " was refused, but then " + after.get(i) + ", not " + before.get(i));
                return;
            }
        }
    }

    /** Runs the tests of a class: its methods terms_.. */
    static void runTerms(Class<?> of) throws ReflectiveOperationException {
        due("tests of " + TERMS, runNamed(of, TERMS) > 0 ? 1 : 0, 1);
    }

    /** Runs the tests of a class: its methods promise01_.., and so on, of each promise there must be one. */
    static void runPromises(Class<?> of, int first, int last) throws ReflectiveOperationException {
        for (int promise = first; promise <= last; promise++) {
            String prefix = String.format("promise%02d_", promise);
            due("tests of " + prefix, runNamed(of, prefix) > 0 ? 1 : 0, 1);
        }
    }

    private static int runNamed(Class<?> of, String prefix) throws ReflectiveOperationException {
        Map<String, Method> named = new TreeMap<>();
        for (Method method : of.getDeclaredMethods()) {
            if (method.getName().startsWith(prefix)) {
                named.put(method.getName(), method);
            }
        }
        for (Map.Entry<String, Method> one : named.entrySet()) {
            test = one.getKey();
            int before = seen + wrong;
            run(one.getValue());
            due("answers seen", seen + wrong > before ? 1 : 0, 1);
            tests++;
        }
        return named.size();
    }

    /** A throw is told as that test's fault, and the others run all the same. */
    private static void run(Method method) throws IllegalAccessException {
        try {
            method.invoke(null);
        } catch (InvocationTargetException thrown) {
            tell("threw " + thrown.getCause());
        }
    }

    static void finish() {
        System.out.println(tests + " named tests, " + seen + " answers seen, " + wrong + " not as due");
        if (wrong != 0 || seen == 0) {
            System.exit(1);
        }
    }
}
