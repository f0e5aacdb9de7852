import java.io.IOException;
import java.lang.reflect.Method;
import java.lang.reflect.Modifier;
import java.nio.file.Files;
import java.nio.file.Path;
import java.util.Arrays;
import java.util.List;
import java.util.regex.Matcher;
import java.util.regex.Pattern;
import java.util.stream.Collectors;
import java.util.stream.Stream;

/** README.md is true: its calls answer what stands behind them, and it names every call, constant and test there is. */
public final class ReadmeTest {
    private static final Pattern EXAMPLE = Pattern.compile("(?s)```java\n(.*?)```");
    private static final Pattern TEXT = Pattern.compile("String text = \"(.*?)\";.*");
    private static final Pattern CALL = Pattern.compile("x\\.(\\w+)\\((.*)\\);\\s+// (-?\\d+): .*");
    private static final String PUTTING = "for (int i = 0; i < text.length(); i++) x.put(0, i, text.charAt(i));";

    private final WordHedges x = new WordHedges();
    private String text = "";
    private int calls = 0;

    public static void main(String[] args) throws IOException, ReflectiveOperationException {
        String readme = Files.readString(Path.of("README.md"));
        Matcher example = EXAMPLE.matcher(readme);
        Due.holds("there is an example", example.find());
        new ReadmeTest().follows(example.group(1).split("\n"));
        namesTheFace(readme);
        namesTheTests(readme);
        Due.end();
    }

    /** Every line of the example is one of those that are known here, so that none goes unseen. */
    private void follows(String[] lines) throws ReflectiveOperationException {
        for (String line : lines) {
            Matcher told = TEXT.matcher(line);
            Matcher call = CALL.matcher(line);
            if (told.matches()) text = told.group(1);
            else if (line.equals(PUTTING)) putText();
            else if (call.matches()) answers(line, call.group(1), call.group(2), Long.parseLong(call.group(3)));
            else Due.holds("this line of the example is known: " + line, line.isEmpty() || line.equals("WordHedges x = new WordHedges();"));
        }
        Due.holds("the example has calls", calls > 10);
    }

    private void putText() {
        for (int i = 0; i < text.length(); i++) x.put(0, i, text.charAt(i));
    }

    private void answers(String line, String name, String numbers, long due) throws ReflectiveOperationException {
        String[] parts = numbers.isEmpty() ? new String[0] : numbers.replace("text.length()", "" + text.length()).split(", ");
        Object[] boxed = Arrays.stream(parts).map(Integer::valueOf).toArray();
        Class<?>[] ints = new Class<?>[boxed.length];
        Arrays.fill(ints, int.class);
        Number got = (Number) WordHedges.class.getMethod(name, ints).invoke(x, boxed);
        Due.is(line, got.longValue(), due);
        calls++;
    }

    private static void namesTheFace(String readme) {
        for (Method m : WordHedges.class.getDeclaredMethods()) {
            if (Modifier.isPublic(m.getModifiers())) Due.holds("README.md names " + m.getName(), readme.contains("`" + m.getName() + "`"));
        }
        String[] constants = {"`UNKNOWN` (-1)", "`OUTSIDE` (-2)", "`STATE` (-3)", "`FULL` (-4)", "`NONE` (-9)", "`LOST`"};
        for (String constant : constants) Due.holds("README.md names " + constant, readme.contains(constant));
    }

    private static void namesTheTests(String readme) throws IOException {
        Due.holds("README.md names .ci/run", readme.contains("`.ci/run`"));
        List<String> files;
        try (Stream<Path> found = Files.list(Path.of("src/test/java"))) {
            files = found.map(p -> p.getFileName().toString()).filter(n -> n.endsWith("Test.java")).collect(Collectors.toList());
        }
        Due.holds("there are tests", !files.isEmpty());
        for (String file : files) Due.holds("README.md names " + file, readme.contains("- `" + file.replace(".java", "") + "`") || readme.contains("), `" + file.replace(".java", "") + "` ("));
    }
}
