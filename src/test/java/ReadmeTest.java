import java.io.IOException;
import java.lang.reflect.Field;
import java.lang.reflect.Method;
import java.nio.file.Files;
import java.nio.file.Path;
import java.util.regex.Matcher;
import java.util.regex.Pattern;

/** README.md: its example answers what it says, and no public name is missing. */
final class ReadmeTest {
    private static final Due DUE = new Due("ReadmeTest");
    private static final Pattern CALL = Pattern.compile("x\\.(\\w+)\\(([^)]*)\\);\\s+// (-?\\d+)\\b.*");

    public static void main(String[] args) throws IOException, ReflectiveOperationException {
        String text = Files.readString(Path.of("README.md"));
        runExample(text);
        lookForNames(text);
        DUE.end();
    }

    private static void runExample(String text) throws ReflectiveOperationException {
        int begin = text.indexOf("```java\n");
        int end = text.indexOf("```", begin + 3);
        DUE.is("an example stands there", begin >= 0 && end > begin ? 1 : 0, 1);
        GraverCalculator x = new GraverCalculator();
        String[] lines = text.substring(begin, end).split("\n");
        DUE.is("the example makes an object", lines[1].startsWith("GraverCalculator x = new GraverCalculator();") ? 1 : 0, 1);
        for (int i = 2; i < lines.length; i++) {
            Matcher call = CALL.matcher(lines[i]);
            if (call.matches()) {
                DUE.is(lines[i], answer(x, call.group(1), call.group(2)), Integer.parseInt(call.group(3)));
            } else {
                DUE.is("this line is a call with its answer: " + lines[i], 0, 1);
            }
        }
    }

    private static int answer(GraverCalculator x, String name, String list) throws ReflectiveOperationException {
        String[] texts = list.isEmpty() ? new String[0] : list.split(", ");
        Class<?>[] types = new Class<?>[texts.length];
        Object[] values = new Object[texts.length];
        for (int i = 0; i < texts.length; i++) {
            types[i] = int.class;
            values[i] = Integer.valueOf(texts[i]);
        }
        return (Integer) GraverCalculator.class.getMethod(name, types).invoke(x, values);
    }

    private static void lookForNames(String text) {
        for (Method method : GraverCalculator.class.getDeclaredMethods()) {
            if (java.lang.reflect.Modifier.isPublic(method.getModifiers())) {
                DUE.is("README.md tells of " + method.getName(), text.contains("`" + method.getName() + "`") ? 1 : 0, 1);
            }
        }
        for (Field field : GraverCalculator.class.getFields()) {
            DUE.is("README.md tells of " + field.getName(), text.contains("`" + field.getName() + "`") ? 1 : 0, 1);
        }
    }
}
