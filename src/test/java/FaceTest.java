import com.sun.management.ThreadMXBean;
import java.io.IOException;
import java.lang.management.ManagementFactory;
import java.lang.reflect.Constructor;
import java.lang.reflect.Field;
import java.lang.reflect.Method;
import java.lang.reflect.Modifier;
import java.nio.file.Files;
import java.nio.file.Path;
import java.util.ArrayList;
import java.util.List;
import java.util.Set;
import java.util.TreeSet;
import java.util.regex.Matcher;
import java.util.regex.Pattern;

/** Holds the compiled class to the document's face (LANGUAGE.md's rule 1), and a run to its room. */
public final class FaceTest {
    /** The room of a run: so many objects and arrays, and so many fields and elements. */
    private static final long ROOM = 600_000L * 16L + 7_300_000L * 4L;
    private static final int MOST_CALLS = 512;

    private final Checks checks = new Checks();

    /** The program and the document, as paths. */
    public static void main(String[] args) throws IOException {
        FaceTest test = new FaceTest();
        test.face(Files.readString(Path.of(args[1])));
        test.privateNames();
        test.hiddenFields();
        test.room();
        test.checks.end("FaceTest");
    }

    private void face(String document) {
        String inner = document.substring(document.indexOf("```java"), document.indexOf("\n```\n"));
        Matcher line = Pattern.compile("    public (?!static|FoldedLetters)(.*);").matcher(inner);
        Set<String> due = new TreeSet<>();
        while (line.find()) {
            due.add(line.group(1).replaceAll("int \\w+(?=[,)])", "int"));
        }
        Set<String> got = new TreeSet<>();
        for (Method method : FoldedLetters.class.getDeclaredMethods()) {
            if (!Modifier.isPrivate(method.getModifiers())) {
                got.add(told(method));
            }
        }
        checks.same("the methods of the face", got.toString(), due.toString());
        Constructor<?>[] made = FoldedLetters.class.getDeclaredConstructors();
        checks.due("constructors", () -> made.length, 1);
        checks.same("the constructor", made[0].toString(), "public FoldedLetters()");
        checks.same("the class", Modifier.toString(FoldedLetters.class.getModifiers()), "public final");
    }

    private static String told(Method method) {
        List<String> parameters = new ArrayList<>();
        for (Class<?> type : method.getParameterTypes()) {
            parameters.add(type.getSimpleName());
        }
        List<String> thrown = new ArrayList<>();
        for (Class<?> type : method.getExceptionTypes()) {
            thrown.add(type.getSimpleName());
        }
        return method.getReturnType() + " " + method.getName() + "(" + String.join(", ", parameters) + ")"
            + (thrown.isEmpty() ? "" : " throws " + String.join(", ", thrown));
    }

    private void privateNames() {
        Set<String> open = new TreeSet<>();
        Set<String> hidden = new TreeSet<>();
        for (Method method : FoldedLetters.class.getDeclaredMethods()) {
            (Modifier.isPublic(method.getModifiers()) ? open : hidden).add(method.getName());
        }
        hidden.retainAll(open);
        checks.same("hidden methods with names of the face", hidden.toString(), "[]");
        for (Class<?> inside : FoldedLetters.class.getDeclaredClasses()) {
            int modifiers = inside.getModifiers();
            boolean seen = Modifier.isPublic(modifiers) || Modifier.isProtected(modifiers);
            checks.same(inside + " can be seen", "" + seen, "false");
        }
    }

    private void hiddenFields() {
        for (Field field : FoldedLetters.class.getDeclaredFields()) {
            boolean isFace = field.getName().equals("NONE");
            boolean hidden = Modifier.isPrivate(field.getModifiers()) || field.isSynthetic();
            checks.same(field + " is hidden", "" + hidden, "" + !isFace);
        }
        checks.due("NONE", () -> FoldedLetters.NONE, -10);
    }

    /** The dearest run: 512 times the call that asks all others. */
    private void room() {
        ThreadMXBean thread = (ThreadMXBean) ManagementFactory.getThreadMXBean();
        thread.getCurrentThreadAllocatedBytes();
        long before = thread.getCurrentThreadAllocatedBytes();
        FoldedLetters letters = new FoldedLetters();
        for (int call = 0; call < MOST_CALLS; call++) {
            letters.digest();
        }
        long used = thread.getCurrentThreadAllocatedBytes() - before;
        checks.same(used + " bytes fit the room", "" + (used <= ROOM), "true");
    }
}
