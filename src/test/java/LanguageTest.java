import java.io.IOException;
import java.lang.reflect.Constructor;
import java.lang.reflect.Field;
import java.lang.reflect.Method;
import java.lang.reflect.Modifier;
import java.nio.file.Files;
import java.nio.file.Path;
import java.util.ArrayList;
import java.util.Collections;
import java.util.List;
import java.util.Set;
import java.util.TreeSet;
import java.util.regex.Matcher;
import java.util.regex.Pattern;

/** Holds the class to the document's face and to what of LANGUAGE.md can be seen from outside. */
public final class LanguageTest {
    private static final String[] FORBIDDEN = {"import ", "package ", "->", "::", "catch", "finally",
        "synchronized", "assert", "instanceof", "System.", "Double.", "Float.", "Exact(", "NaN",
        "static {", "while (true)", "for (;;)", "getClass", "hashCode", "toString"};
    private static final int MOST_LINES = 60;

    private final Checks checks = new Checks();

    /** The program, the document: both as paths. */
    public static void main(String[] args) throws IOException {
        LanguageTest test = new LanguageTest();
        List<String> program = Files.readAllLines(Path.of(args[0]));
        test.face(Files.readString(Path.of(args[1])));
        test.privateNames();
        test.staticFields();
        test.words(withoutComments(program));
        test.newObjects(withoutComments(program));
        test.shortMethods(program);
        test.checks.end("LanguageTest");
    }

    private static List<String> withoutComments(List<String> program) {
        List<String> code = new ArrayList<>();
        for (String line : program) {
            String bare = line.trim();
            if (!bare.startsWith("*") && !bare.startsWith("/*") && !bare.startsWith("//")) {
                code.add(line);
            }
        }
        return code;
    }

    private void face(String document) {
        String inner = document.substring(document.indexOf("```java"), document.indexOf("\n```\n"));
        Matcher line = Pattern.compile("    public (?!static|FoldedLetters)(.*);").matcher(inner);
        Set<String> due = new TreeSet<>();
        while (line.find()) {
            due.add(line.group(1).replaceAll("int \\w+(?=[,)])", "int"));
        }
        Set<String> got = new TreeSet<>();
        for (Method method : FoldedLetters.class.getDeclaredMethods()) {
            if (!Modifier.isPrivate(method.getModifiers())) {
                got.add(told(method));
            }
        }
        checks.same("the methods of the face", got.toString(), due.toString());
        Constructor<?>[] made = FoldedLetters.class.getDeclaredConstructors();
        checks.due("constructors", () -> made.length, 1);
        checks.same("the constructor", made[0].toString(), "public FoldedLetters()");
        checks.same("the class", Modifier.toString(FoldedLetters.class.getModifiers()), "public final");
    }

    private static String told(Method method) {
        List<String> parameters = new ArrayList<>();
        for (Class<?> type : method.getParameterTypes()) {
            parameters.add(type.getSimpleName());
        }
        List<String> thrown = new ArrayList<>();
        for (Class<?> type : method.getExceptionTypes()) {
            thrown.add(type.getSimpleName());
        }
        return method.getReturnType() + " " + method.getName() + "(" + String.join(", ", parameters) + ")"
            + (thrown.isEmpty() ? "" : " throws " + String.join(", ", thrown));
    }

    private void privateNames() {
        Set<String> open = new TreeSet<>();
        Set<String> hidden = new TreeSet<>();
        collectNames(FoldedLetters.class, open, hidden);
        for (Class<?> inside : FoldedLetters.class.getDeclaredClasses()) {
            checks.same(inside + " is static", "" + Modifier.isStatic(inside.getModifiers()), "true");
            collectNames(inside, hidden, hidden);
        }
        hidden.retainAll(open);
        checks.same("hidden methods with names of the face", hidden.toString(), "[]");
    }

    private static void collectNames(Class<?> of, Set<String> open, Set<String> hidden) {
        for (Method method : of.getDeclaredMethods()) {
            (Modifier.isPublic(method.getModifiers()) ? open : hidden).add(method.getName());
        }
    }

    private void staticFields() {
        List<Field> all = new ArrayList<>(List.of(FoldedLetters.class.getDeclaredFields()));
        for (Class<?> inside : FoldedLetters.class.getDeclaredClasses()) {
            Collections.addAll(all, inside.getDeclaredFields());
        }
        for (Field field : all) {
            boolean constant = Modifier.isStatic(field.getModifiers());
            boolean fits = !constant || Modifier.isFinal(field.getModifiers()) && field.getType() == int.class;
            checks.same(field + " is a constant", "" + fits, "true");
            boolean isFace = field.getName().equals("NONE");
            boolean hidden = Modifier.isPrivate(field.getModifiers())
                || field.getDeclaringClass() != FoldedLetters.class;
            checks.same(field + " is hidden", "" + hidden, "" + !isFace);
        }
    }

    private void words(List<String> code) {
        for (String word : FORBIDDEN) {
            for (String line : code) {
                checks.same("the line " + line + " holds " + word, "" + line.contains(word), "false");
            }
        }
    }

    /** All rows are made with the object; a call makes nothing but the exception that it throws. */
    private void newObjects(List<String> code) {
        Pattern allowed = Pattern.compile("throw new \\w+\\(\"[^\"]*\"\\);|private final .* = new |\\] = new \\w+\\(\\);");
        for (String line : code) {
            if (line.contains("new ")) {
                checks.same("made in a call: " + line, "" + allowed.matcher(line).find(), "true");
            }
        }
    }

    private void shortMethods(List<String> program) {
        int begun = -1;
        for (int i = 0; i < program.size(); i++) {
            String line = program.get(i);
            if (line.matches("( {4}| {8})\\w.*\\) .*\\{")) {
                begun = i;
            }
            if (line.matches(" {4}\\}| {8}\\}") && begun >= 0) {
                boolean isShort = i - begun < MOST_LINES;
                checks.same("is short: " + program.get(begun), "" + isShort, "true");
                begun = -1;
            }
        }
    }
}
