import java.io.IOException;
import java.lang.reflect.Method;
import java.lang.reflect.Modifier;
import java.nio.file.DirectoryStream;
import java.nio.file.Files;
import java.nio.file.Path;
import java.util.regex.Matcher;
import java.util.regex.Pattern;

/** README.md: its calls answer what it says, and it names every call and every test. Run from the project's folder. */
public final class ReadmeTest {
    private static final Check check = new Check();

    public static void main(String[] args) throws Exception {
        String text = Files.readString(Path.of("README.md"));
        calls(text);
        names(text);
        tests(text);
        check.end();
    }

    /** Plays the calls of the page on one object; each stands on a line of its own, with its answer behind it. */
    private static void calls(String text) throws ReflectiveOperationException {
        check.about("calls");
        int begin = text.indexOf("```java\n");
        int end = text.indexOf("```\n", begin + 1);
        check.holds("a block of calls", begin >= 0 && end > begin);
        HarpOrders club = new HarpOrders();
        int played = 0;
        for (String line : text.substring(Math.max(begin, 0), Math.max(end, 0)).split("\n")) {
            Matcher call = Pattern.compile("club\\.(\\w+)\\((.*)\\); +// (-?\\d+): .*|.*").matcher(line);
            if (call.matches() && call.group(1) != null) {
                check.due(call.group(1) + "(" + call.group(2) + ")", answer(club, call.group(1), call.group(2)),
                    Integer.parseInt(call.group(3)));
                played++;
            } else {
                check.holds("no call in: " + line, !line.contains("club."));
            }
        }
        check.holds("calls were played", played > 0);
    }

    private static int answer(HarpOrders club, String name, String arguments) throws ReflectiveOperationException {
        String[] given = arguments.isEmpty() ? new String[0] : arguments.split(", ");
        for (Method method : HarpOrders.class.getDeclaredMethods()) {
            if (method.getName().equals(name) && method.getParameterCount() == given.length) {
                Object[] values = new Object[given.length];
                for (int i = 0; i < given.length; i++) {
                    values[i] = value(given[i], method.getParameterTypes()[i]);
                }
                return (Integer) method.invoke(club, values);
            }
        }
        throw new IllegalArgumentException("README.md calls " + name + ", which is no method with such arguments");
    }

    private static Object value(String given, Class<?> type) {
        if (type == boolean.class) {
            return Boolean.valueOf(given);
        }
        if (type == long.class) {
            return Long.decode(given.replaceAll("L$", ""));
        }
        int set = 0;
        for (String term : given.split(" \\| ")) {
            String[] sides = term.split(" << ");
            int number = Integer.parseInt(sides[0]);
            set |= sides.length > 1 ? number << Integer.parseInt(sides[1]) : number;
        }
        return set;
    }

    private static void names(String text) {
        check.about("names");
        for (Method method : HarpOrders.class.getDeclaredMethods()) {
            if (Modifier.isPublic(method.getModifiers())) {
                check.holds("`" + method.getName() + "`", text.contains("`" + method.getName() + "`"));
            }
        }
        for (Class<?> inside : HarpOrders.class.getDeclaredClasses()) {
            check.holds("`" + inside.getSimpleName() + "`", text.contains("`" + inside.getSimpleName() + "`"));
        }
    }

    private static void tests(String text) throws IOException {
        check.about("tests");
        check.holds("how they are run", text.contains("\n    .ci/run\n"));
        Path folder = Path.of("src/test/java");
        try (DirectoryStream<Path> files = Files.newDirectoryStream(folder, "*Test.java")) {
            for (Path file : files) {
                String name = file.getFileName().toString().replace(".java", "");
                check.holds("`" + name + "` is told", text.contains("\n| `" + name + "` | "));
            }
        }
        Matcher rows = Pattern.compile("\n\\| `(\\w+Test)` \\|").matcher(text);
        while (rows.find()) {
            check.holds(rows.group(1) + " is there", Files.exists(folder.resolve(rows.group(1) + ".java")));
        }
    }
}
