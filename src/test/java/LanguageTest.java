import com.sun.management.ThreadMXBean;
import java.io.IOException;
import java.lang.management.ManagementFactory;
import java.lang.reflect.Constructor;
import java.lang.reflect.Field;
import java.lang.reflect.Method;
import java.lang.reflect.Modifier;
import java.nio.file.Files;
import java.nio.file.Path;
import java.util.ArrayList;
import java.util.Collections;
import java.util.List;
import java.util.Set;
import java.util.TreeSet;
import java.util.regex.Matcher;
import java.util.regex.Pattern;

/** Holds the class to the document's face and to what of LANGUAGE.md can be seen from outside. */
public final class LanguageTest {
    /** Each is no part of the language that LANGUAGE.md leaves, wherever it stands. */
    private static final String[] FORBIDDEN = {"package ", "::", "finally", "synchronized", "assert ",
        "Double.", "Float.", "Exact(", "NaN", "static {", "while (true)", "for (;;)", "getClass", "hashCode",
        "getMessage", "Throwable", "catch (Exception", "ArrayIndexOutOfBounds", "NullPointer",
        "ClassCastException", "NegativeArraySize", "ArrayStoreException", "System.out", "System.nano",
        "System.current", "System.identity"};
    private static final String IMPORTS =
        "import java\\.util\\.(ArrayList|List|Arrays|Iterator|NoSuchElementException);";
    private static final int SOME_SIXTY_LINES = 70;

    /** The room of a run: so many objects and arrays, and so many fields and elements. */
    private static final long ROOM = 600_000L * 16L + 7_300_000L * 4L;
    private static final int MOST_CALLS = 512;

    private final Checks checks = new Checks();

    /** The program, the document: both as paths. */
    public static void main(String[] args) throws IOException {
        LanguageTest test = new LanguageTest();
        List<String> program = Files.readAllLines(Path.of(args[0]));
        test.face(Files.readString(Path.of(args[1])));
        test.privateNames();
        test.staticFields();
        test.words(withoutComments(program));
        test.imports(withoutComments(program));
        test.lambdas(withoutComments(program));
        test.shortMethods(program);
        test.room();
        test.checks.end("LanguageTest");
    }

    private static List<String> withoutComments(List<String> program) {
        List<String> code = new ArrayList<>();
        for (String line : program) {
            String bare = line.trim();
            if (!bare.startsWith("*") && !bare.startsWith("/*") && !bare.startsWith("//")) {
                code.add(line);
            }
        }
        return code;
    }

    private void face(String document) {
        String inner = document.substring(document.indexOf("```java"), document.indexOf("\n```\n"));
        Matcher line = Pattern.compile("    public (?!static|FoldedLetters)(.*);").matcher(inner);
        Set<String> due = new TreeSet<>();
        while (line.find()) {
            due.add(line.group(1).replaceAll("int \\w+(?=[,)])", "int"));
        }
        Set<String> got = new TreeSet<>();
        for (Method method : FoldedLetters.class.getDeclaredMethods()) {
            if (!Modifier.isPrivate(method.getModifiers())) {
                got.add(told(method));
            }
        }
        checks.same("the methods of the face", got.toString(), due.toString());
        Constructor<?>[] made = FoldedLetters.class.getDeclaredConstructors();
        checks.due("constructors", () -> made.length, 1);
        checks.same("the constructor", made[0].toString(), "public FoldedLetters()");
        checks.same("the class", Modifier.toString(FoldedLetters.class.getModifiers()), "public final");
    }

    private static String told(Method method) {
        List<String> parameters = new ArrayList<>();
        for (Class<?> type : method.getParameterTypes()) {
            parameters.add(type.getSimpleName());
        }
        List<String> thrown = new ArrayList<>();
        for (Class<?> type : method.getExceptionTypes()) {
            thrown.add(type.getSimpleName());
        }
        return method.getReturnType() + " " + method.getName() + "(" + String.join(", ", parameters) + ")"
            + (thrown.isEmpty() ? "" : " throws " + String.join(", ", thrown));
    }

    private void privateNames() {
        Set<String> open = new TreeSet<>();
        Set<String> hidden = new TreeSet<>();
        for (Method method : FoldedLetters.class.getDeclaredMethods()) {
            (Modifier.isPublic(method.getModifiers()) ? open : hidden).add(method.getName());
        }
        hidden.retainAll(open);
        checks.same("hidden methods with names of the face", hidden.toString(), "[]");
        for (Class<?> inside : FoldedLetters.class.getDeclaredClasses()) {
            int modifiers = inside.getModifiers();
            boolean seen = Modifier.isPublic(modifiers) || Modifier.isProtected(modifiers);
            checks.same(inside + " can be seen", "" + seen, "false");
        }
    }

    private void staticFields() {
        for (Field field : FoldedLetters.class.getDeclaredFields()) {
            boolean isFace = field.getName().equals("NONE");
            boolean hidden = Modifier.isPrivate(field.getModifiers()) || field.isSynthetic();
            checks.same(field + " is hidden", "" + hidden, "" + !isFace);
        }
        List<Class<?>> all = new ArrayList<>(List.of(FoldedLetters.class));
        Collections.addAll(all, FoldedLetters.class.getDeclaredClasses());
        for (Class<?> of : all) {
            for (Field field : of.getDeclaredFields()) {
                boolean isStatic = Modifier.isStatic(field.getModifiers()) && !field.isSynthetic();
                boolean changes = isStatic && !Modifier.isFinal(field.getModifiers());
                checks.same(field + " is static and changes", "" + changes, "false");
            }
        }
    }

    private void words(List<String> code) {
        for (String word : FORBIDDEN) {
            for (String line : code) {
                checks.same("the line " + line + " holds " + word, "" + line.contains(word), "false");
            }
        }
    }

    private void imports(List<String> code) {
        for (String line : code) {
            if (line.startsWith("import ")) {
                checks.same(line + " may be used", "" + line.matches(IMPORTS), "true");
            }
        }
    }

    private void lambdas(List<String> code) {
        for (String line : code) {
            String bare = line.trim();
            boolean isCase = bare.startsWith("case ") || bare.startsWith("default ");
            checks.same("a lambda in: " + line, "" + (line.contains("->") && !isCase), "false");
        }
    }

    /** The dearest run: 512 times the call that asks all others. */
    private void room() {
        ThreadMXBean thread = (ThreadMXBean) ManagementFactory.getThreadMXBean();
        thread.getCurrentThreadAllocatedBytes();
        long before = thread.getCurrentThreadAllocatedBytes();
        FoldedLetters letters = new FoldedLetters();
        for (int call = 0; call < MOST_CALLS; call++) {
            letters.digest();
        }
        long used = thread.getCurrentThreadAllocatedBytes() - before;
        checks.same(used + " bytes fit the room", "" + (used <= ROOM), "true");
    }

    private void shortMethods(List<String> program) {
        int begun = -1;
        for (int i = 0; i < program.size(); i++) {
            String line = program.get(i);
            if (line.matches("( {4}| {8})\\w.*\\) .*\\{")) {
                begun = i;
            }
            if (line.matches(" {4}\\}| {8}\\}") && begun >= 0) {
                boolean isShort = i - begun < SOME_SIXTY_LINES;
                checks.same("is short: " + program.get(begun), "" + isShort, "true");
                begun = -1;
            }
        }
    }
}
