import java.io.IOException;
import java.lang.reflect.InvocationTargetException;
import java.lang.reflect.Method;
import java.nio.file.Files;
import java.nio.file.Path;
import java.util.regex.Matcher;
import java.util.regex.Pattern;

/** The example of README.md: each of its calls answers what is written behind it. */
public final class ReadmeTest {
    private static final Pattern NEW = Pattern.compile("WinterYard yard = new WinterYard\\(\\);");
    private static final Pattern CALL = Pattern.compile("yard\\.(\\w+)\\(([^)]*)\\); +// ([A-Z_]+|-?\\d+)(?: - (\\d+))?(?:[:,].*)?");
    private static final Pattern LOOP = Pattern.compile("for \\(char c : \"([^\"]+)\"\\.toCharArray\\(\\)\\) \\{");
    private static final Pattern TYPE = Pattern.compile(" {4}yard\\.type\\(c\\);");

    private static final Check check = new Check("ReadmeTest");
    private static WinterYard yard = null;
    private static String text = "";
    private static int calls = 0;

    public static void main(String[] args) throws IOException, ReflectiveOperationException {
        String readme = Files.readString(Path.of("README.md"));
        int start = readme.indexOf("```java\n");
        int end = readme.indexOf("\n```\n", start);
        check.holds("README.md has an example", start >= 0 && end > start);
        if (start >= 0 && end > start) {
            for (String line : readme.substring(start + "```java\n".length(), end).split("\n")) {
                follow(line);
            }
        }
        check.holds("the example has 15 calls or more", calls >= 15);
        check.holds(".ci/run is named", readme.contains(".ci/run"));
        everyTestIsNamed(readme);
        check.end();
    }

    private static void follow(String line) throws ReflectiveOperationException {
        Matcher call = CALL.matcher(line);
        Matcher loop = LOOP.matcher(line);
        if (NEW.matcher(line).matches()) {
            yard = new WinterYard();
        } else if (loop.matches()) {
            text = loop.group(1);
        } else if (TYPE.matcher(line).matches()) {
            for (char c : text.toCharArray()) {
                yard.type(c);
            }
        } else if (call.matches()) {
            int due = number(call.group(3)) - (call.group(4) == null ? 0 : number(call.group(4)));
            check.due(line, answer(call.group(1), call.group(2)), due);
            calls++;
        } else {
            check.holds("the line \"" + line + "\" is one of these kinds", line.isBlank() || line.equals("}"));
        }
    }

    private static int number(String word) throws ReflectiveOperationException {
        if (Character.isLetter(word.charAt(0))) {
            return WinterYard.class.getField(word).getInt(null);
        }
        return Integer.parseInt(word);
    }

    private static int answer(String name, String arguments) throws ReflectiveOperationException {
        String[] words = arguments.isEmpty() ? new String[0] : arguments.split(", ");
        Object[] values = new Object[words.length];
        for (int i = 0; i < words.length; i++) {
            values[i] = value(words[i]);
        }
        for (Method method : WinterYard.class.getMethods()) {
            if (method.getName().equals(name) && method.getParameterCount() == words.length) {
                return called(method, values);
            }
        }
        check.holds("there is a method " + name, false);
        return 0;
    }

    private static Object value(String word) {
        if (word.equals("true") || word.equals("false")) {
            return Boolean.valueOf(word);
        }
        if (word.length() == 3 && word.startsWith("'")) {
            return word.charAt(1);
        }
        return Integer.valueOf(word);
    }

    private static int called(Method method, Object[] values) throws ReflectiveOperationException {
        try {
            return (Integer) method.invoke(yard, values);
        } catch (InvocationTargetException thrown) {
            check.holds(method + " throws nothing", false);
            return 0;
        }
    }

    private static void everyTestIsNamed(String readme) throws IOException {
        try (var files = Files.list(Path.of("src/test/java"))) {
            for (Path file : files.toList()) {
                String name = file.getFileName().toString().replace(".java", "");
                boolean isTest = name.endsWith("Test");
                check.holds("README.md names " + name, !isTest || readme.contains("`" + name + "`"));
            }
        }
    }
}
