import java.io.IOException;
import java.lang.reflect.InvocationTargetException;
import java.lang.reflect.Method;
import java.nio.file.Files;
import java.nio.file.Path;
import java.util.regex.Matcher;
import java.util.regex.Pattern;

/** Plays the calls that README.md shows, each with the answer behind its "//". */
public final class ReadmeTest {
    private static final Pattern SHOWN =
        Pattern.compile("letters\\.(\\w+)\\((.*?)\\);\\s+// (-?[0-9.]+|\\w+Exception)\\b.*");

    private final Checks checks = new Checks();
    private final FoldedLetters letters = new FoldedLetters();

    /** The program, the document and the readme, as paths. */
    public static void main(String[] args) throws IOException {
        ReadmeTest test = new ReadmeTest();
        for (String line : Files.readAllLines(Path.of(args[2]))) {
            if (line.startsWith("letters.")) {
                test.play(line);
            }
        }
        test.checks.end("ReadmeTest");
    }

    private void play(String line) {
        Matcher shown = SHOWN.matcher(line);
        boolean isShown = shown.matches();
        checks.same("the call and its answer can be read: " + line, "" + isShown, "true");
        if (isShown) {
            checks.same(line, answer(shown.group(1), shown.group(2)), shown.group(3));
        }
    }

    private String answer(String name, String arguments) {
        String[] texts = arguments.isEmpty() ? new String[0] : arguments.split(", ");
        Object[] values = new Object[texts.length];
        for (int i = 0; i < texts.length; i++) {
            values[i] = texts[i].startsWith("'") ? (int) texts[i].charAt(1) : Integer.parseInt(texts[i]);
        }
        for (Method method : FoldedLetters.class.getMethods()) {
            if (method.getName().equals(name)) {
                return called(method, values);
            }
        }
        return "no such method";
    }

    private String called(Method method, Object[] values) {
        try {
            return String.valueOf(method.invoke(letters, values));
        } catch (InvocationTargetException thrown) {
            return thrown.getCause().getClass().getSimpleName();
        } catch (IllegalAccessException thrown) {
            return "not public";
        }
    }
}
