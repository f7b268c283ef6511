import java.lang.reflect.Constructor;
import java.lang.reflect.Field;
import java.lang.reflect.Method;
import java.lang.reflect.Modifier;
import java.nio.file.Files;
import java.nio.file.Path;
import java.util.Set;
import java.util.TreeSet;
import java.util.regex.Pattern;

/** The public face as the document has it, and the rules for the file that can be seen from outside. */
public final class FaceTest {
    private static final String[] FACE = {
        "int set(int, int)", "int putIn(int, int)", "int remove(int)", "int rebuild(int)", "int value(int)",
        "int node(int, int)", "int count(int)", "long meanDepth(int)", "int leaning(int)", "int rank(int)",
        "int kth(int)", "int neighbour(int, int)", "int sum(int, int)", "int wouldCost(int)", "int worst(int)",
        "int put(long)", "int wipe()", "int fault()", "int carryOut()", "int undo()", "int save(int)",
        "int restore(int)"};
    private static final String[] CONSTANTS = {
        "NO_SUCH=-1", "BAD_VALUE=-2", "BAD_TEXT=-3", "TOO_MANY=-4", "NOT_POSSIBLE=-5", "NONE=-6", "LEAN=0",
        "HOLLOW=1", "PAY=2"};
    /** What LANGUAGE.md leaves out, as patterns. */
    private static final String[] NOT_IN_THE_FILE = {
        "\\bpackage ", "\\bimport (?!java\\.util\\.)", "::", "\\bfinally\\b", "\\bassert\\b", "\\bsynchronized\\b",
        "Exact\\(", "\\bDouble\\b", "\\bFloat\\b", "\\bObject\\b", "\\bSystem\\.(?!arraycopy\\b)", "\\bstatic \\{",
        "\\bThread\\b", "\\bRandom\\b", "\\bgetMessage\\b", "\\btry \\("};

    private final Checks checks = new Checks();

    public static void main(String[] args) throws Exception {
        FaceTest test = new FaceTest();
        test.members();
        test.classesInside();
        test.text();
        test.checks.end("FaceTest");
    }

    private void members() throws IllegalAccessException {
        Set<String> names = new TreeSet<>();
        Set<String> methods = new TreeSet<>();
        for (Method method : LeaningTrees.class.getDeclaredMethods()) {
            if (!Modifier.isPrivate(method.getModifiers())) {
                methods.add(signature(method));
                names.add(method.getName());
                checks.holds(method + " is public and of the object",
                    method.getModifiers() == Modifier.PUBLIC);
            }
        }
        checks.holds("methods " + methods, methods.equals(Set.of(FACE)));
        for (Method method : LeaningTrees.class.getDeclaredMethods()) {
            if (Modifier.isPrivate(method.getModifiers())) {
                checks.holds(method + " bears no public name", !names.contains(method.getName()));
            }
        }
        Set<String> constants = new TreeSet<>();
        for (Field field : LeaningTrees.class.getDeclaredFields()) {
            if (!Modifier.isPrivate(field.getModifiers())) {
                constants.add(field.getName() + "=" + field.getInt(null));
            }
        }
        checks.holds("constants " + constants, constants.equals(Set.of(CONSTANTS)));
        Constructor<?>[] constructors = LeaningTrees.class.getDeclaredConstructors();
        checks.due("constructors", constructors.length, 1);
        checks.due("public constructors without arguments", LeaningTrees.class.getConstructors().length, 1);
        checks.holds("public final", LeaningTrees.class.getModifiers() == (Modifier.PUBLIC | Modifier.FINAL));
    }

    private static String signature(Method method) {
        StringBuilder text = new StringBuilder(method.getReturnType() + " " + method.getName() + "(");
        for (Class<?> type : method.getParameterTypes()) {
            text.append(text.charAt(text.length() - 1) == '(' ? "" : ", ").append(type);
        }
        return text + ")";
    }

    private void classesInside() {
        Class<?>[] inside = LeaningTrees.class.getDeclaredClasses();
        checks.holds("at most twelve classes", inside.length <= 12);
        for (Class<?> each : inside) {
            checks.holds(each + " is static, not public", Modifier.isStatic(each.getModifiers())
                && (each.getModifiers() & (Modifier.PUBLIC | Modifier.PROTECTED)) == 0);
            fieldsOf(each);
        }
        fieldsOf(LeaningTrees.class);
    }

    private void fieldsOf(Class<?> type) {
        int fields = 0;
        for (Field field : type.getDeclaredFields()) {
            boolean isStatic = Modifier.isStatic(field.getModifiers());
            checks.holds(field + " is final, if it is static", !isStatic || Modifier.isFinal(field.getModifiers()));
            fields += isStatic ? 0 : 1;
        }
        checks.holds("some twenty fields in " + type, fields <= 24);
    }

    private void text() throws Exception {
        String text = Files.readString(Path.of("src/main/java/LeaningTrees.java"))
            .replaceAll("(?s)/\\*.*?\\*/", "").replaceAll("//[^\n]*", "");
        for (String pattern : NOT_IN_THE_FILE) {
            checks.holds("the file is without " + pattern, !Pattern.compile(pattern).matcher(text).find());
        }
        String withoutCases = text.replaceAll("\\b(case|default)\\b[^:;{}]*?->", "");
        checks.holds("the file is without lambdas", !withoutCases.contains("->"));
    }
}
