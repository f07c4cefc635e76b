import java.io.IOException;
import java.lang.reflect.Method;
import java.nio.file.Files;
import java.nio.file.Path;
import java.util.HashMap;
import java.util.Map;
import java.util.Set;
import java.util.TreeSet;
import java.util.regex.Matcher;
import java.util.regex.Pattern;

/** Each call that README.md shows answers what README.md says of it, and no call of the face is left out there. */
public final class ReadmeTest {
    private static final Pattern CALL = Pattern.compile("bank\\.(\\w+)\\(([^)]*)\\);\\s+// (-?\\d+)(:.*)?");
    private static final String NEW = "FoodShares bank = new FoodShares();";
    private static final int MOST_CALLS = 512;
    private static final Check check = new Check("ReadmeTest");

    private final Map<String, Method> face = new HashMap<>();
    private final Set<String> shown = new TreeSet<>();
    private FoodShares bank = null;
    private int calls = 0;

    public static void main(String[] args) throws ReflectiveOperationException, IOException {
        new ReadmeTest().follow(Files.readString(Path.of("README.md")));
        check.end();
    }

    private ReadmeTest() {
        for (Method method : FoodShares.class.getMethods()) {
            if (method.getDeclaringClass() == FoodShares.class) {
                face.put(method.getName(), method);
            }
        }
    }

    private void follow(String readme) throws ReflectiveOperationException {
        boolean isCode = false;
        for (String line : readme.split("\n")) {
            if (line.startsWith("```")) {
                isCode = line.equals("```java");
            } else if (isCode && line.equals(NEW)) {
                bank = new FoodShares();
                calls = 0;
            } else if (isCode) {
                call(line);
            }
        }
        check.due("README.md shows " + shown + " of " + face.keySet(), shown.equals(face.keySet()));
    }

    private void call(String line) throws ReflectiveOperationException {
        Matcher told = CALL.matcher(line);
        boolean canBeRead = told.matches() && face.containsKey(told.group(1)) && bank != null;
        check.due("can't be read: " + line, canBeRead);
        if (!canBeRead) {
            return;
        }
        String name = told.group(1);
        Number answer = (Number) face.get(name).invoke(bank, numbers(told.group(2)));
        check.due(line, answer.longValue(), Long.parseLong(told.group(3)));
        calls++;
        check.due(line + ": no more than 512 calls are promised", calls <= MOST_CALLS);
        shown.add(name);
        if (name.equals("feed")) {
            check.due("the text told in: " + line, textOf(numbers(told.group(2))).equals(told.group(4)));
        }
    }

    private static String textOf(Object[] five) {
        StringBuilder text = new StringBuilder();
        for (Object number : five) {
            for (int shift = 24; shift >= 0; shift -= 8) {
                text.append((char) ((Integer) number >> shift & 255));
            }
        }
        return ": \"" + text + "\"";
    }

    private static Object[] numbers(String list) {
        String[] parts = list.isEmpty() ? new String[0] : list.split(", ");
        Object[] numbers = new Object[parts.length];
        for (int i = 0; i < parts.length; i++) {
            numbers[i] = Integer.decode(parts[i]);
        }
        return numbers;
    }
}
