import java.io.IOException;
import java.lang.reflect.Field;
import java.lang.reflect.Method;
import java.lang.reflect.Modifier;
import java.nio.file.Files;
import java.nio.file.Path;
import java.util.List;

/** What of ../shared/LANGUAGE.md can be seen by looking for words in the source, and by counting. */
final class LanguageTest {
    private static final Path SOURCE = Path.of("src", "main", "java", "TapeHall.java");
    private static final String[] REFUSED = {
        "->", "::", "try ", "catch ", "finally", "synchronized", "assert ", "protected ", "package ",
        "hashCode", "toString", "System.currentTime", "System.nanoTime", "Random", "Thread", "Exact(",
        "@SuppressWarnings", "record ", "var "};

    private static final int MOST_PARAMETERS = 7;
    private static final int MOST_CLASSES = 12;
    private static final int MOST_FIELDS = 20;

    public static void main(String[] args) throws IOException {
        words(Files.readAllLines(SOURCE));
        Class<?>[] inside = TapeHall.class.getDeclaredClasses();
        Due.yes(inside.length + " classes inside", inside.length < MOST_CLASSES);
        members(TapeHall.class);
        for (Class<?> one : inside) {
            members(one);
        }
        Due.close();
    }

    private static void words(List<String> lines) {
        int methodStart = 0;
        for (int i = 0; i < lines.size(); i++) {
            String line = lines.get(i);
            String where = "line " + (i + 1);
            Due.no(where + " is too long", line.length() > 120);
            if (line.startsWith("import ")) {
                Due.yes(where + " imports what it may", line.equals("import java.util.NoSuchElementException;"));
            }
            if (line.strip().startsWith("*") || line.strip().startsWith("/") || line.startsWith("import ")) {
                continue;
            }
            for (String refused : REFUSED) {
                Due.no(where + " has " + refused, line.contains(refused));
            }
            Due.no(where + " has text joined", line.contains("\"") && line.contains(" + "));
            if (line.strip().isEmpty()) {
                methodStart = i;
            }
            Due.no(where + " stands in a long method", i - methodStart > 60);
        }
    }

    private static void members(Class<?> of) {
        for (Method method : of.getDeclaredMethods()) {
            Due.no(method + " takes too much", method.getParameterCount() > MOST_PARAMETERS);
        }
        int fields = 0;
        for (Field field : of.getDeclaredFields()) {
            if (!Modifier.isStatic(field.getModifiers())) {
                fields++;
                continue;
            }
            Due.yes(field + " is a constant", Modifier.isFinal(field.getModifiers()) && field.getType() == int.class);
        }
        Due.no(of + " has too many fields", fields > MOST_FIELDS);
    }
}
