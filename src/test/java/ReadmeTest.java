import java.io.IOException;
import java.lang.reflect.Method;
import java.lang.reflect.Modifier;
import java.nio.file.Files;
import java.nio.file.Path;
import java.util.Map;
import java.util.Set;
import java.util.TreeMap;
import java.util.TreeSet;
import java.util.regex.MatchResult;
import java.util.regex.Matcher;
import java.util.regex.Pattern;
import java.util.stream.Collectors;
import java.util.stream.Stream;

/** That what README.md says is so: its example is run, and what it names is there. */
public final class ReadmeTest {
    private static final Path README = Path.of("README.md");
    private static final Path TESTS = Path.of("src/test/java");
    private static final String MADE = "ShareStore store = new ShareStore();";
    private static final Pattern EXAMPLE = Pattern.compile("(?s)```java\n(.*?)```");
    private static final Pattern CALL = Pattern.compile("store\\.(\\w+)\\((.*?)\\); +// (-?\\w+): .+");
    private static final Pattern ROW = Pattern.compile("(?m)^\\| (`.+?) \\|");
    private static final Pattern NAMED_CALL = Pattern.compile("`(\\w+)\\((.*?)\\)`");
    private static final Pattern CONSTANT = Pattern.compile("`([A-Z]+)` \\((-\\d)");
    private static final Pattern CLASS = Pattern.compile("`([A-Z][a-z]\\w*)`");
    private static final Pattern NAMED_TEST = Pattern.compile("`((?:promise|terms)\\w*_\\w+)`");

    private final String text;
    private final Map<String, Method> face = new TreeMap<>();

    private ReadmeTest(String text) {
        this.text = text;
        for (Method m : ShareStore.class.getDeclaredMethods()) {
            if (Modifier.isPublic(m.getModifiers())) {
                face.put(m.getName(), m);
            }
        }
    }

    // ---- the example

    private void example() throws ReflectiveOperationException {
        Matcher block = EXAMPLE.matcher(text);
        Check.due("there is an example", block.find() ? 1 : 0, 1);
        String[] lines = block.group(1).split("\n");
        Check.due("it begins with " + MADE, lines[0].equals(MADE) ? 1 : 0, 1);
        ShareStore store = new ShareStore();
        for (int i = 1; i < lines.length; i++) {
            Matcher call = CALL.matcher(lines[i]);
            boolean isCall = call.matches() && face.containsKey(call.group(1));
            Check.due("a call with its answer: " + lines[i], isCall ? 1 : 0, 1);
            if (isCall) {
                Check.due(lines[i], answer(store, face.get(call.group(1)), call.group(2)), number(call.group(3)));
            }
        }
        Check.due("lines", lines.length > 1 ? 1 : 0, 1);
    }

    private static long answer(ShareStore store, Method method, String told) throws ReflectiveOperationException {
        String[] words = told.isEmpty() ? new String[0] : told.split(", ");
        Class<?>[] types = method.getParameterTypes();
        Object[] arguments = new Object[words.length];
        for (int i = 0; i < words.length; i++) {
            arguments[i] = i < types.length ? argument(words[i], types[i]) : null;
        }
        return ((Number) method.invoke(store, arguments)).longValue();
    }

    private static Object argument(String word, Class<?> type) {
        if (type == boolean.class) {
            return Boolean.valueOf(word);
        }
        String digits = word.endsWith("L") ? word.substring(0, word.length() - 1) : word;
        long value = digits.startsWith("0b") ? Long.parseLong(digits.substring(2), 2) : Long.decode(digits);
        if (type == int.class) {
            return (int) value;
        }
        return value;
    }

    private static long number(String word) throws ReflectiveOperationException {
        boolean isName = Character.isLetter(word.charAt(0));
        return isName ? ShareStore.class.getField(word).getInt(null) : Long.parseLong(word);
    }

    // ---- what it names

    private void calls() {
        Set<String> missing = new TreeSet<>(face.keySet());
        for (MatchResult row : ROW.matcher(text).results().collect(Collectors.toList())) {
            for (MatchResult named : NAMED_CALL.matcher(row.group(1)).results().collect(Collectors.toList())) {
                missing.remove(named.group(1));
                Method method = face.get(named.group(1));
                int told = named.group(2).isEmpty() ? 0 : named.group(2).split(", ").length;
                Check.due("parameters of " + named.group(), told, method == null ? -1 : method.getParameterCount());
            }
        }
        Check.due("calls that no row names: " + missing, missing.size(), 0);
    }

    private void constants() throws ReflectiveOperationException {
        Set<String> told = new TreeSet<>();
        for (MatchResult named : CONSTANT.matcher(text).results().collect(Collectors.toList())) {
            told.add(named.group(1));
            Check.due(named.group(1), number(named.group(1)), Long.parseLong(named.group(2)));
        }
        Check.due("constants told: " + told, told.size(), 7);
    }

    private void classes() throws IOException {
        Set<String> due = new TreeSet<>(Set.of("ShareStore"));
        for (Class<?> inside : ShareStore.class.getDeclaredClasses()) {
            due.add(inside.getSimpleName());
        }
        due.addAll(testClasses());
        Set<String> named = new TreeSet<>();
        CLASS.matcher(text).results().forEach(found -> named.add(found.group(1)));
        Check.due("named " + named + ", there are " + due, named.equals(due) ? 1 : 0, 1);
    }

    private static Set<String> testClasses() throws IOException {
        try (Stream<Path> files = Files.list(TESTS)) {
            return files.map(file -> file.getFileName().toString().replace(".java", "")).collect(Collectors.toSet());
        }
    }

    private void tests() throws IOException, ClassNotFoundException {
        Set<String> there = new TreeSet<>();
        for (String name : testClasses()) {
            for (Method m : Class.forName(name).getDeclaredMethods()) {
                there.add(m.getName());
            }
        }
        for (MatchResult named : NAMED_TEST.matcher(text).results().collect(Collectors.toList())) {
            Check.due("there is a test " + named.group(1), there.contains(named.group(1)) ? 1 : 0, 1);
        }
    }

    private void commands() {
        Check.due("how to run the tests", text.contains("\n    .ci/run\n") ? 1 : 0, 1);
        Check.due(".ci/run can be run", Files.isExecutable(Path.of(".ci/run")) ? 1 : 0, 1);
        for (String path : new String[] {"../shared/DOC.md", "../shared/LANGUAGE.md", "../shared/tests",
            "src/main/java/ShareStore.java", "src/test/java"}) {
            Check.due("it names " + path, text.contains("`" + path + "`") ? 1 : 0, 1);
            Check.due("there is " + path, Files.exists(Path.of(path)) ? 1 : 0, 1);
        }
    }

    public static void main(String[] args) throws IOException, ReflectiveOperationException {
        ReadmeTest test = new ReadmeTest(Files.readString(README));
        test.example();
        test.calls();
        test.constants();
        test.classes();
        test.tests();
        test.commands();
        Check.finish();
    }
}
