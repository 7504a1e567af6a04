import java.io.IOException;
import java.lang.reflect.Method;
import java.lang.reflect.Modifier;
import java.nio.file.Files;
import java.nio.file.Path;
import java.util.regex.Matcher;
import java.util.regex.Pattern;

/** README.md: its examples answer as it says, and it names every call of the face. */
public final class ReadmeTest {
    private static final Pattern BLOCK = Pattern.compile("(?s)```java\n(.*?)```");
    private static final Pattern TEXT = Pattern.compile("String text = \"(.*)\";");
    private static final Pattern CALL = Pattern.compile("x\\.(\\w+)\\((.*?)\\); +// (-?\\d+|[A-Z]+):.*");

    public static void main(String[] args) throws IOException, ReflectiveOperationException {
        String readme = Files.readString(Path.of("README.md"));
        Matcher block = BLOCK.matcher(readme);
        int examples = 0;
        while (block.find()) {
            example(block.group(1));
            examples++;
        }
        Check.due("examples", examples, 2);
        for (Method m : SuetTroubles.class.getDeclaredMethods()) {
            if (Modifier.isPublic(m.getModifiers())) {
                namesCall(readme, m);
            }
        }
        Check.holds("README tells of .ci/run", readme.contains(".ci/run"));
        Check.end();
    }

    private static void namesCall(String readme, Method m) {
        Matcher row = Pattern.compile("(?m)^\\| `" + m.getName() + "\\((.*?)\\)` \\| .+ \\|$").matcher(readme);
        Check.holds("README has a row for " + m.getName(), row.find());
        int named = row.group(1).isEmpty() ? 0 : row.group(1).split(",").length;
        Check.due("parameters of " + m.getName() + " in README", named, m.getParameterCount());
    }

    /** The first three lines make the object and feed it; each line behind them is a call with its answer. */
    private static void example(String lines) throws ReflectiveOperationException {
        SuetTroubles x = new SuetTroubles();
        Matcher text = TEXT.matcher(lines);
        Check.holds("a text is fed in the example", text.find());
        Check.feedAll(x, text.group(1));
        String[] each = lines.split("\n");
        for (int k = 3; k < each.length; k++) {
            Matcher call = CALL.matcher(each[k]);
            Check.holds("a call with its answer: " + each[k], call.matches());
            Check.due(each[k], answer(x, call.group(1), call.group(2)), number(call.group(3)));
        }
    }

    private static int number(String said) throws ReflectiveOperationException {
        return Character.isLetter(said.charAt(0)) ? SuetTroubles.class.getField(said).getInt(null) : Integer.parseInt(said);
    }

    private static int answer(SuetTroubles x, String name, String arguments) throws ReflectiveOperationException {
        String[] words = arguments.isEmpty() ? new String[0] : arguments.split(", ");
        Object[] values = new Object[words.length];
        Class<?>[] types = new Class<?>[words.length];
        for (int k = 0; k < words.length; k++) {
            values[k] = Integer.parseInt(words[k]);
            types[k] = int.class;
        }
        return (int) SuetTroubles.class.getMethod(name, types).invoke(x, values);
    }
}
