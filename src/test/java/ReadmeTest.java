import java.io.IOException;
import java.lang.reflect.Method;
import java.lang.reflect.Modifier;
import java.nio.file.DirectoryStream;
import java.nio.file.Files;
import java.nio.file.Path;
import java.util.HashMap;
import java.util.List;
import java.util.Map;
import java.util.regex.Matcher;
import java.util.regex.Pattern;

/** The examples of README.md answer as they say, and it leaves out no call and no test. */
final class ReadmeTest {
    private static final Path README = Path.of("README.md");
    private static final Path TESTS = Path.of("src", "test", "java");
    /** As in: int read = hall.ask(0, tape, 3, 0);  // 1: words. */
    private static final Pattern CALL = Pattern.compile(
            "(?:int (\\w+) = )?hall\\.(\\w+)\\(([^)]*)\\); +// (true|false|-?\\d+)(?::.*)?");
    private static final int EXAMPLES = 4;

    private final Map<String, Integer> names = new HashMap<>();
    private TapeHall hall;
    private int examples;

    public static void main(String[] args) throws IOException, ReflectiveOperationException {
        new ReadmeTest().runExamples(Files.readAllLines(README));
        String text = Files.readString(README);
        for (Method method : TapeHall.class.getDeclaredMethods()) {
            if (Modifier.isPublic(method.getModifiers())) {
                Due.yes("README tells of " + method.getName(), text.contains("| `" + method.getName() + "("));
            }
        }
        try (DirectoryStream<Path> files = Files.newDirectoryStream(TESTS, "*.java")) {
            for (Path file : files) {
                String name = file.getFileName().toString().replace(".java", "");
                Due.yes("README tells of " + name, text.contains("`" + name + "`"));
            }
        }
        Due.close();
    }

    private void runExamples(List<String> lines) throws ReflectiveOperationException {
        boolean inside = false;
        for (String line : lines) {
            if (line.startsWith("```")) {
                inside = line.equals("```java");
            } else if (inside) {
                runLine(line);
            }
        }
        Due.same("examples", examples, EXAMPLES);
    }

    private void runLine(String line) throws ReflectiveOperationException {
        if (line.equals("TapeHall hall = new TapeHall();")) {
            hall = new TapeHall();
            names.clear();
            examples++;
            return;
        }
        Matcher call = CALL.matcher(line);
        boolean isCall = call.matches();
        Due.yes("README has a call with its answer: " + line, isCall);
        if (isCall) {
            Object answer = answerOf(call.group(2), call.group(3));
            Due.yes("README: " + line + " answers " + answer, call.group(4).equals(String.valueOf(answer)));
            if (call.group(1) != null) {
                names.put(call.group(1), (Integer) answer);
            }
        }
    }

    private Object answerOf(String name, String arguments) throws ReflectiveOperationException {
        String[] written = arguments.isEmpty() ? new String[0] : arguments.split(", ");
        Class<?>[] types = new Class<?>[written.length];
        Object[] numbers = new Object[written.length];
        for (int i = 0; i < written.length; i++) {
            types[i] = int.class;
            Integer named = names.get(written[i]);
            numbers[i] = named != null ? named : Integer.valueOf(written[i]);
        }
        return TapeHall.class.getMethod(name, types).invoke(hall, numbers);
    }
}
