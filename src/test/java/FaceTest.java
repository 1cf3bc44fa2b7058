import java.io.IOException;
import java.lang.reflect.Field;
import java.lang.reflect.Method;
import java.lang.reflect.Modifier;
import java.nio.file.Files;
import java.nio.file.Path;
import java.util.Set;
import java.util.TreeSet;
import java.util.regex.Matcher;
import java.util.regex.Pattern;

/** The document's face and no other, and those rules of LANGUAGE.md that can be read off the class and its text. */
public final class FaceTest {
    private static final String[] FACE = {
        "int times(int,int)", "int over(int,int)", "int rowAt(int,int)", "int feed(long,int)", "int cut(int)",
        "int put(int)", "int remove(int)", "int settle(int)", "int get(int,int)", "int got(int)", "int version(int)",
        "int open(int)", "int fail(int)", "int back(int)", "int wipe(int)", "int rebuild(int,int)",
        "int fresh(int,int)", "int sent(int)", "int free(int)", "int record(int,int,int)",
        "int block(int,int,int,boolean)", "int byteOf(int,int,int)", "int symbol(int,int,int,int)", "int count(int)",
        "long digest()", "int clear()"};
    private static final String[] CONSTANTS = {"NONE", "BAD", "NO", "FEW", "FULL", "EMPTY", "NOUGHT"};
    private static final Set<String> PUBLIC_NAMES = new TreeSet<>();

    private static String signature(Method m) {
        StringBuilder text = new StringBuilder(m.getReturnType().getSimpleName() + " " + m.getName() + "(");
        for (Class<?> type : m.getParameterTypes()) {
            text.append(text.charAt(text.length() - 1) == '(' ? "" : ",").append(type.getSimpleName());
        }
        return text.append(")").toString();
    }

    private static void methods() {
        Set<String> due = new TreeSet<>(Set.of(FACE));
        for (Method m : ShareStore.class.getDeclaredMethods()) {
            if (Modifier.isPublic(m.getModifiers())) {
                PUBLIC_NAMES.add(m.getName());
                Check.due("in the face: " + signature(m), due.remove(signature(m)) ? 1 : 0, 1);
                Check.due("static: " + signature(m), Modifier.isStatic(m.getModifiers()) ? 1 : 0, 0);
            }
        }
        Check.due("missing: " + due, due.size(), 0);
        for (Method m : ShareStore.class.getDeclaredMethods()) {
            if (!Modifier.isPublic(m.getModifiers())) {
                dueOwn(m);
            }
        }
    }

    private static void dueOwn(Method m) {
        Check.due("private: " + signature(m), Modifier.isPrivate(m.getModifiers()) ? 1 : 0, 1);
        Check.due("named as a public one: " + signature(m), PUBLIC_NAMES.contains(m.getName()) ? 1 : 0, 0);
        Check.due("at most seven parameters: " + signature(m), m.getParameterCount() <= 7 ? 1 : 0, 1);
    }

    private static void fields() throws ReflectiveOperationException {
        Set<String> due = new TreeSet<>(Set.of(CONSTANTS));
        int own = 0;
        for (Field f : ShareStore.class.getDeclaredFields()) {
            boolean isConstant = due.remove(f.getName());
            int want = isConstant ? Modifier.PUBLIC | Modifier.STATIC | Modifier.FINAL : Modifier.PRIVATE;
            Check.due("modifiers of " + f.getName(), f.getModifiers() & (want | Modifier.PUBLIC), want);
            own += Modifier.isStatic(f.getModifiers()) ? 0 : 1;
            Check.due("static and not final: " + f.getName(),
                Modifier.isStatic(f.getModifiers()) && !Modifier.isFinal(f.getModifiers()) ? 1 : 0, 0);
        }
        Check.due("missing: " + due, due.size(), 0);
        Check.due("some twenty fields, not " + own, own <= 20 ? 1 : 0, 1);
        for (int i = 0; i < CONSTANTS.length; i++) {
            Check.due(CONSTANTS[i], ShareStore.class.getField(CONSTANTS[i]).getInt(null), -1 - i);
        }
    }

    private static void classes() {
        Check.due("public and final", ShareStore.class.getModifiers(), Modifier.PUBLIC | Modifier.FINAL);
        Check.due("constructors", ShareStore.class.getDeclaredConstructors().length, 1);
        Check.due("the public one", ShareStore.class.getConstructors().length, 1);
        Check.due("some twelve classes", ShareStore.class.getDeclaredClasses().length < 12 ? 1 : 0, 1);
        for (Class<?> inside : ShareStore.class.getDeclaredClasses()) {
            Check.due("static: " + inside.getName(), Modifier.isStatic(inside.getModifiers()) ? 1 : 0, 1);
            Check.due("public: " + inside.getName(), Modifier.isPublic(inside.getModifiers()) ? 1 : 0, 0);
            for (Method m : inside.getDeclaredMethods()) {
                Check.due("named as a public one: " + signature(m), PUBLIC_NAMES.contains(m.getName()) ? 1 : 0, 0);
            }
        }
    }

    private static void text() throws IOException {
        String source = Files.readString(Path.of("src/main/java/ShareStore.java"));
        String code = source.replaceAll("(?s)/\\*.*?\\*/", "").replaceAll("//[^\n]*", "");
        Matcher m = Pattern.compile("\\b(throw|throws|try|catch|finally|synchronized|assert|import|package|protected"
            + "|volatile|native|transient|instanceof|equals|hashCode|toString)\\b|->|::|\"").matcher(code);
        while (m.find()) {
            Check.due("not in the language here: " + m.group(), 1, 0);
        }
        for (String line : source.split("\n")) {
            Check.due("at most 120 signs: " + line, line.length() <= 120 ? 1 : 0, 1);
            Check.due("no tab: " + line, line.indexOf('\t'), -1);
        }
    }

    /** Looks into each method: how long it is, and whether it makes what every call would count. */
    private static void bodies() throws IOException {
        Pattern head = Pattern.compile("( +)(?:\\w+ )*[\\w\\[\\]]+ ([a-z]\\w*)\\([^()]*\\) \\{");
        String name = "";
        String end = "";
        int lines = 0;
        int methods = 0;
        for (String line : Files.readAllLines(Path.of("src/main/java/ShareStore.java"))) {
            Matcher m = head.matcher(line);
            lines++;
            if (end.isEmpty() && m.matches()) {
                name = m.group(2);
                end = m.group(1) + "}";
                lines = 0;
                methods++;
            } else if (line.equals(end)) {
                Check.due("at most sixty lines: " + name, lines <= 60 ? 1 : 0, 1);
                end = "";
            }
            boolean makes = !end.isEmpty() && line.matches(".*\\b(new|clone|copyOf|copyOfRange)\\b.*");
            Check.due(name + " makes an object: " + line, makes ? 1 : 0, 0);
        }
        Check.due("methods seen", methods, declaredMethods());
    }

    private static int declaredMethods() {
        int declared = ShareStore.class.getDeclaredMethods().length;
        for (Class<?> inside : ShareStore.class.getDeclaredClasses()) {
            declared += inside.getDeclaredMethods().length;
        }
        return declared;
    }

    public static void main(String[] args) throws Exception {
        methods();
        fields();
        classes();
        text();
        bodies();
        Check.finish();
    }
}
