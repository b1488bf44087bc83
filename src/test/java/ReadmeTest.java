import java.io.IOException;
import java.lang.reflect.InvocationTargetException;
import java.lang.reflect.Method;
import java.lang.reflect.Modifier;
import java.nio.file.Files;
import java.nio.file.Path;
import java.util.Arrays;
import java.util.List;
import java.util.Map;
import java.util.TreeMap;
import java.util.TreeSet;
import java.util.regex.Matcher;
import java.util.regex.Pattern;

/** What README.md says: the calls of its example are made, one line after the other, and answer what stands behind. */
public final class ReadmeTest {
    private static final String MAKING = "KnobMenu menu = new KnobMenu();";
    private static final Pattern CALL =
        Pattern.compile("(?:int (\\w+) = )?menu\\.(\\w+)\\((.*?)\\); +// ([-\\w]+)(?::.*)?");

    private final KnobMenu menu = new KnobMenu();
    private final Map<String, Integer> names = new TreeMap<>();

    public static void main(String[] args) throws IOException, IllegalAccessException {
        String readme = Files.readString(Path.of("README.md"));
        List<String> example = between(readme, "```java\n", "```").lines().filter(line -> !line.isBlank()).toList();
        Check.equal("the first line", example.get(0), MAKING);
        Check.isTrue("there are calls", example.size() > 30);
        ReadmeTest test = new ReadmeTest();
        for (String line : example.subList(1, example.size())) {
            test.checkLine(line);
        }
        checkTable(between(readme, "| calls | for what |\n| --- | --- |\n", "\n\n"));
        Check.end("ReadmeTest");
    }

    private static String between(String text, String before, String behind) {
        int start = text.indexOf(before) + before.length();
        return text.substring(start, text.indexOf(behind, start));
    }

    private void checkLine(String line) throws IllegalAccessException {
        Matcher call = CALL.matcher(line);
        if (!call.matches()) {
            Check.equal("README.md", line, "a call with its answer");
            return;
        }
        String got = answer(methodNamed(call.group(2)), arguments(call.group(3)));
        Check.equal("README.md: " + line, got, call.group(4));
        if (call.group(1) != null) {
            names.put(call.group(1), Integer.parseInt(got));
        }
    }

    private static Method methodNamed(String name) {
        return Arrays.stream(KnobMenu.class.getMethods()).filter(method -> method.getName().equals(name)).findFirst()
            .orElseThrow();
    }

    private String answer(Method method, Object[] arguments) throws IllegalAccessException {
        try {
            return String.valueOf(method.invoke(menu, arguments));
        } catch (InvocationTargetException e) {
            return e.getCause().getClass().getSimpleName();
        }
    }

    private Object[] arguments(String list) {
        if (list.length() == 3 && list.charAt(0) == '\'') {
            return new Object[] {(int) list.charAt(1)};
        }
        return Arrays.stream(list.split(", ")).filter(word -> !word.isEmpty()).map(this::number).toArray();
    }

    private Object number(String word) {
        return names.containsKey(word) ? names.get(word) : Integer.valueOf(word);
    }

    /** The first column of the table names every method of the class once, and nothing else. */
    private static void checkTable(String table) {
        StringBuilder named = new StringBuilder();
        table.lines().forEach(row -> named.append(row.split("\\|")[1]).append(' '));
        List<String> said = Arrays.stream(named.toString().replaceAll("[`,]", " ").trim().split(" +")).toList();
        TreeSet<String> due = new TreeSet<>();
        for (Method method : KnobMenu.class.getDeclaredMethods()) {
            if (Modifier.isPublic(method.getModifiers())) {
                due.add(method.getName());
            }
        }
        Check.equal("README.md: the table of calls", new TreeSet<>(said).toString(), due.toString());
        Check.equal("README.md: calls in the table", said.size(), due.size());
    }
}
