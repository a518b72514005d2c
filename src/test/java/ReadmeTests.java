import java.io.IOException;
import java.lang.reflect.Method;
import java.lang.reflect.Modifier;
import java.nio.file.Files;
import java.nio.file.Path;
import java.util.List;
import java.util.regex.Matcher;
import java.util.regex.Pattern;

/** README.md's examples: each line "desk.call(..); // answer" is called, and answers that; each call is named. */
public final class ReadmeTests {
    private static final Desk d = new Desk("ReadmeTests");
    private static final Path PAGE = Path.of("README.md");
    private static final Path SOURCE = Path.of("src/test/java/ReadmeTests.java");
    private static final String NEW = "SeveralWishes desk = new SeveralWishes();";
    private static final Pattern FEED = Pattern.compile("feed\\(desk, \"(.*)\"\\);");
    private static final Pattern CALL = Pattern.compile("desk\\.(\\w+)\\((.*)\\); // (-?\\d+|true|false)\\b.*");

    public static void main(String[] args) throws IOException, ReflectiveOperationException {
        StringBuilder function = new StringBuilder();
        boolean isJava = false;
        for (String line : Files.readAllLines(PAGE)) {
            if (line.startsWith("```")) {
                isJava = line.equals("```java");
            } else if (isJava && !isDone(line)) {
                function.append(line.isEmpty() ? "" : "    ").append(line).append('\n');
            }
        }
        d.due("what is no call is the function by which the examples are fed here:\n" + function,
                Files.readString(SOURCE).contains("\n\n" + function + "\n") ? 1 : 0, 1);
        everyCall();
        d.end();
    }

    private static void everyCall() throws IOException {
        String page = Files.readString(PAGE);
        for (Method method : SeveralWishes.class.getDeclaredMethods()) {
            if (Modifier.isPublic(method.getModifiers())) {
                d.due("names " + method.getName(), page.contains("`" + method.getName() + "`") ? 1 : 0, 1);
            }
        }
    }

    private static boolean isDone(String line) throws ReflectiveOperationException {
        Matcher text = FEED.matcher(line);
        Matcher call = CALL.matcher(line);
        if (line.equals(NEW)) {
            d.fresh();
        } else if (text.matches()) {
            feed(d.x(), text.group(1));
        } else if (call.matches()) {
            d.due(line, String.valueOf(answer(call.group(1), call.group(2))), call.group(3));
        } else {
            return line.isEmpty();
        }
        return true;
    }

    static void feed(SeveralWishes desk, String text) {
        for (int from = 0; from < text.length(); from += 20) {
            int[] fours = new int[5];
            for (int i = 0; i < 20; i++) {
                fours[i / 4] = fours[i / 4] << 8 | (from + i < text.length() ? text.charAt(from + i) : 0);
            }
            desk.feed(fours[0], fours[1], fours[2], fours[3], fours[4]);
        }
    }

    private static Object answer(String name, String told) throws ReflectiveOperationException {
        List<String> parts = told.isEmpty() ? List.of() : List.of(told.split(", "));
        for (Method method : SeveralWishes.class.getMethods()) {
            if (method.getName().equals(name) && method.getParameterCount() == parts.size()) {
                Object[] values = new Object[parts.size()];
                for (int i = 0; i < values.length; i++) {
                    boolean isNumber = method.getParameterTypes()[i] == int.class;
                    values[i] = isNumber ? (Object) Integer.decode(parts.get(i)) : Boolean.valueOf(parts.get(i));
                }
                return method.invoke(d.x(), values);
            }
        }
        return "no such call";
    }
}
