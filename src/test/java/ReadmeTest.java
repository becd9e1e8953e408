import java.lang.reflect.Field;
import java.lang.reflect.Method;
import java.lang.reflect.Modifier;
import java.nio.file.Files;
import java.nio.file.Path;
import java.util.regex.Matcher;
import java.util.regex.Pattern;
import java.util.stream.Stream;

/** README.md holds: its run answers what stands behind each call, and it tells of every call, constant and test. */
public final class ReadmeTest {
    private static final Path README = Path.of("README.md");
    private static final Path TESTS = Path.of("src/test/java");
    private static final Pattern TEXT = Pattern.compile("String text = \"([^\"]*)\";");
    private static final Pattern CALL = Pattern.compile("(?m)^print\\.(\\w+)\\(([^)]*)\\); *// (-?\\d+)\\b");
    private static final Due due = new Due();

    public static void main(String[] args) throws Exception {
        String page = Files.readString(README);
        theRun(page);
        everyCall(page);
        everyConstant(page);
        everyTest(page);
        due.end();
    }

    private static void theRun(String page) throws Exception {
        Matcher text = TEXT.matcher(page);
        due.holds("the page has a text", text.find());
        SlippedBlocks print = new SlippedBlocks();
        for (char letter : text.group(1).toCharArray()) {
            print.type(letter);
        }
        Matcher call = CALL.matcher(page);
        int calls = 0;
        while (call.find()) {
            due.is("print." + call.group(1) + "(" + call.group(2) + ")", answer(print, call.group(1), call.group(2)),
                    Integer.parseInt(call.group(3)));
            calls++;
        }
        due.is("calls with their answers", calls, page.split("(?m)^print\\.", -1).length - 1);
        due.holds("some calls", calls > 20);
    }

    private static int answer(SlippedBlocks print, String name, String numbers) throws Exception {
        String[] parts = numbers.isBlank() ? new String[0] : numbers.split(",");
        Class<?>[] types = new Class<?>[parts.length];
        Object[] values = new Object[parts.length];
        for (int i = 0; i < parts.length; i++) {
            types[i] = int.class;
            values[i] = Integer.parseInt(parts[i].trim());
        }
        return (Integer) SlippedBlocks.class.getMethod(name, types).invoke(print, values);
    }

    private static void everyCall(String page) {
        for (Method m : SlippedBlocks.class.getDeclaredMethods()) {
            if (Modifier.isPublic(m.getModifiers())) {
                due.holds("the page has a line on " + m.getName(), page.contains("| `" + m.getName() + "("));
            }
        }
    }

    private static void everyConstant(String page) throws Exception {
        for (Field f : SlippedBlocks.class.getFields()) {
            String line = "| `" + f.getName() + "` | " + f.getInt(null) + " |";
            due.holds("the page has '" + line + "'", page.contains(line));
        }
    }

    private static void everyTest(String page) throws Exception {
        try (Stream<Path> files = Files.list(TESTS)) {
            files.map(file -> file.getFileName().toString()).filter(name -> name.endsWith("Test.java"))
                    .forEach(name -> due.holds("the page names " + name, page.contains("`" + TESTS + "/" + name + "`")));
        }
    }
}
