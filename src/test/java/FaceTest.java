import java.lang.reflect.Constructor;
import java.lang.reflect.Field;
import java.lang.reflect.Method;
import java.lang.reflect.Modifier;
import java.nio.charset.StandardCharsets;
import java.nio.file.Files;
import java.nio.file.Path;
import java.util.ArrayList;
import java.util.List;
import java.util.TreeSet;
import java.util.regex.Matcher;
import java.util.regex.Pattern;

/** The public face is that of the document, and the source keeps what can be seen of LANGUAGE.md. */
public final class FaceTest {
    private static final String ARGUMENT = "IllegalArgumentException";
    private static final String STATE = "IllegalStateException";
    private static final String INDEX = "IndexOutOfBoundsException";

    private FaceTest() {
    }

    public static void main(String[] args) throws Exception {
        theClass();
        theMethods();
        theSource();
        Check.finish("FaceTest");
    }

    private static void theClass() throws Exception {
        Class<?> c = BoardMetronomes.class;
        Check.dueTrue("public and final", Modifier.isPublic(c.getModifiers()) && Modifier.isFinal(c.getModifiers()));
        Check.due("public constructors", c.getConstructors().length, 1);
        for (Constructor<?> made : c.getDeclaredConstructors()) {
            Check.due("arguments of the constructor", made.getParameterCount(), 0);
        }
        for (Field field : c.getDeclaredFields()) {
            boolean isPublic = Modifier.isPublic(field.getModifiers());
            Check.dueTrue(field + " is private or NONE", Modifier.isPrivate(field.getModifiers())
                || isPublic && field.getName().equals("NONE"));
        }
        Field none = c.getDeclaredField("NONE");
        Check.dueTrue("NONE is a constant", none.getType() == int.class && Modifier.isStatic(none.getModifiers())
            && Modifier.isFinal(none.getModifiers()) && none.getInt(null) == -1);
        for (Class<?> inside : c.getDeclaredClasses()) {
            Check.dueTrue(inside + " is static and not public", Modifier.isStatic(inside.getModifiers())
                && !Modifier.isPublic(inside.getModifiers()) && !Modifier.isProtected(inside.getModifiers()));
        }
    }

    private static void theMethods() {
        String[] due = {
            face("int metronome(int int int)", ARGUMENT, STATE), face("int weigh(int int)", INDEX, ARGUMENT),
            face("int wind(int int)", INDEX, ARGUMENT), face("int hold(int)", INDEX), face("int take()", STATE),
            face("int run(int)", ARGUMENT, STATE), face("int stop()"), face("int set(int int)", INDEX, ARGUMENT),
            face("int append(int)", ARGUMENT, STATE), face("int clearBuffer()"), face("int firstError()"),
            face("int play()", ARGUMENT), face("int keep(int)", ARGUMENT), face("int goBack(int)", ARGUMENT, STATE),
            face("int undo()", STATE), face("int arm(int int)", INDEX, ARGUMENT),
            face("int apart(int int)", INDEX, ARGUMENT), face("int count(int)", ARGUMENT),
            face("int setting(int)", INDEX), face("int ifRun(int int int)", ARGUMENT), face("int untilStep()"),
            face("int bestStrength(int)", ARGUMENT), face("int stopsIn(int)", INDEX),
            face("int farthest(boolean)"), face("double togetherShare()"), face("long digest()")};
        TreeSet<String> want = new TreeSet<>(List.of(due));
        TreeSet<String> names = new TreeSet<>();
        TreeSet<String> got = new TreeSet<>();
        for (Method method : BoardMetronomes.class.getDeclaredMethods()) {
            if (Modifier.isPublic(method.getModifiers())) {
                got.add(told(method));
                names.add(method.getName());
            }
        }
        Check.dueTrue("the public methods are " + want + " but " + got, got.equals(want));
        for (Method method : BoardMetronomes.class.getDeclaredMethods()) {
            boolean isPublic = Modifier.isPublic(method.getModifiers());
            boolean isPrivate = Modifier.isPrivate(method.getModifiers());
            Check.dueTrue(method + " is public or private", isPublic || isPrivate);
            Check.dueTrue(method + " has no public one's name", isPublic || !names.contains(method.getName()));
            Check.dueTrue(method + " has seven parameters at most", method.getParameterCount() <= 7);
        }
    }

    private static String face(String head, String... exceptions) {
        return head + " " + String.join(" ", exceptions);
    }

    private static String told(Method method) {
        List<String> arguments = new ArrayList<>();
        for (Class<?> type : method.getParameterTypes()) {
            arguments.add(type.getSimpleName());
        }
        List<String> exceptions = new ArrayList<>();
        for (Class<?> type : method.getExceptionTypes()) {
            exceptions.add(type.getSimpleName());
        }
        return method.getReturnType().getSimpleName() + " " + method.getName() + "("
            + String.join(" ", arguments) + ") " + String.join(" ", exceptions);
    }

    private static void theSource() throws Exception {
        Path file = Path.of("src/main/java/BoardMetronomes.java");
        String source = new String(Files.readAllBytes(file), StandardCharsets.UTF_8);
        Check.dueTrue("signs 1 to 127", source.chars().allMatch(c -> c > 0 && c < 128));
        String code = source.replaceAll("(?s)/\\*.*?\\*/", " ").replaceAll("//[^\n]*", " ")
            .replaceAll("\"[^\"\n]*\"", "\"\"");
        String[] banned = {"->", "::", "\\bimport\\b", "\\bpackage\\b", "\\bfinally\\b", "\\bsynchronized\\b",
            "\\bassert\\b", "\\bcatch\\b", "\\bSystem\\b(?!\\.arraycopy)", "\\bDouble\\b", "\\bFloat\\b", "\\bThread\\b",
            "\\b\\w+Exact\\b", "\\.equals\\b", "\\bhashCode\\b", "\\btoString\\b", "\"\" *\\+", "\\+ *\"\"",
            "\\binstanceof\\b", "\\bwhile *\\( *true", "for *\\( *;"};
        for (String word : banned) {
            Matcher found = Pattern.compile(word).matcher(code);
            Check.dueTrue("the source has no " + word, !found.find());
        }
        Matcher thrown = Pattern.compile("\\bthrow\\b(?! new (" + ARGUMENT + "|" + STATE + "|" + INDEX + ")\\(\"\"\\);)")
            .matcher(code);
        Check.dueTrue("each throw is of an exception that the document names", !thrown.find());
        Matcher state = Pattern.compile("\\bstatic (?!final\\b|class\\b)[\\w\\[\\]]+ \\w+ *(=|;)").matcher(code);
        Check.dueTrue("each static field is final", !state.find());
    }
}
