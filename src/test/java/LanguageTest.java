import java.io.IOException;
import java.nio.file.Files;
import java.nio.file.Path;
import java.util.List;

/** What of ../shared/LANGUAGE.md can be seen by looking for words in the source. */
final class LanguageTest {
    private static final Path SOURCE = Path.of("src", "main", "java", "TapeHall.java");
    private static final String[] REFUSED = {
        "->", "::", "try ", "catch ", "finally", "synchronized", "assert ", "protected ", "package ",
        "hashCode", "toString", "System.currentTime", "System.nanoTime", "Random", "Thread", "Exact(",
        "@SuppressWarnings", "record ", "var "};

    public static void main(String[] args) throws IOException {
        List<String> lines = Files.readAllLines(SOURCE);
        int methodStart = 0;
        for (int i = 0; i < lines.size(); i++) {
            String line = lines.get(i);
            String where = "line " + (i + 1);
            Due.no(where + " is too long", line.length() > 120);
            if (line.startsWith("import ")) {
                Due.yes(where + " imports what it may", line.equals("import java.util.NoSuchElementException;"));
            }
            if (line.strip().startsWith("*") || line.strip().startsWith("/") || line.startsWith("import ")) {
                continue;
            }
            for (String refused : REFUSED) {
                Due.no(where + " has " + refused, line.contains(refused));
            }
            Due.no(where + " has text joined", line.contains("\"") && line.contains(" + "));
            if (line.strip().isEmpty()) {
                methodStart = i;
            }
            Due.no(where + " stands in a long method", i - methodStart > 60);
        }
        Due.close();
    }
}
