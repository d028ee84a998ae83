import java.io.IOException;
import java.lang.reflect.InvocationTargetException;
import java.lang.reflect.Method;
import java.lang.reflect.Modifier;
import java.nio.file.Files;
import java.nio.file.Path;
import java.util.Map;
import java.util.TreeMap;
import java.util.regex.Matcher;
import java.util.regex.Pattern;

/** README.md says how to use the class: its examples are called line by line, and every call is named. Run from the root. */
public final class ReadmeTest extends Answers {
    private static final Pattern JAVA_BLOCK = Pattern.compile("(?s)```java\n(.*?)```");
    private static final Pattern TELLING = Pattern.compile("Teller\\.tell\\(x, (\\d), NONE, \"([^\"]*)\"\\);\\s+// (\\S+)");
    private static final Pattern CALL = Pattern.compile("x\\.(\\w+)\\(([^()]*)\\);\\s+// (-?\\d+|true|false)\\b.*");
    private static final Map<String, Method> METHODS = new TreeMap<>();

    private ReadmeTest() {
    }

    public static void main(String[] args) throws IOException, IllegalAccessException, InvocationTargetException {
        for (Method m : EpochEngine.class.getDeclaredMethods()) {
            if (Modifier.isPublic(m.getModifiers())) {
                METHODS.put(m.getName(), m);
            }
        }
        String page = Files.readString(Path.of("README.md"));
        int blocks = 0;
        Matcher m = JAVA_BLOCK.matcher(page);
        while (m.find()) {
            blocks++;
            under("README.md, example " + blocks);
            follow(m.group(1));
        }
        under("README.md");
        due("how many examples", blocks, 2);
        namesEveryCall(page);
        finish("ReadmeTest");
    }

    /** Every line of an example is a new object, a remark, or a call with its answer: another line is wrong. */
    private static void follow(String example) throws IllegalAccessException, InvocationTargetException {
        EpochEngine x = null;
        for (String line : example.split("\n")) {
            Matcher telling = TELLING.matcher(line);
            Matcher call = CALL.matcher(line);
            if (line.equals("EpochEngine x = new EpochEngine();")) {
                x = new EpochEngine();
            } else if (telling.matches()) {
                due(line, Teller.tell(x, number(telling.group(1)), NONE, telling.group(2)), number(telling.group(3)));
            } else if (call.matches()) {
                due(line, answer(x, call.group(1), call.group(2)), number(call.group(3)));
            } else {
                due("a line that is no call: " + line, line.isEmpty() || line.startsWith("//"), true);
            }
        }
    }

    private static int answer(EpochEngine x, String name, String list) throws IllegalAccessException, InvocationTargetException {
        String[] told = list.split(", ");
        Object[] numbers = new Object[told.length];
        for (int i = 0; i < told.length; i++) {
            numbers[i] = number(told[i]);
        }
        Object got = METHODS.get(name).invoke(x, numbers);
        return number(got.toString());
    }

    private static int number(String told) {
        switch (told) {
            case "NONE":
            case "EpochEngine.NONE":
                return NONE;
            case "true":
                return 1;
            case "false":
                return 0;
            default:
                return (int) (long) Long.decode(told);
        }
    }

    private static void namesEveryCall(String page) {
        for (String name : METHODS.keySet()) {
            due("the table names " + name, page.contains("`" + name + "("), true);
            due("an example calls " + name, page.contains("\nx." + name + "("), true);
        }
    }
}
