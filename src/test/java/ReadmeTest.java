import java.nio.file.Files;
import java.nio.file.Path;
import java.util.HashSet;
import java.util.Set;
import java.util.regex.Matcher;
import java.util.regex.Pattern;

/** The examples of README.md answer what they say, and show every call. */
final class ReadmeTest {
    private static final Path README = Path.of("README.md");
    private static final Pattern EXAMPLE = Pattern.compile("    x\\.(\\w+)\\((.*)\\); +// (-?\\d+)(:.*)?");

    private ReadmeTest() {
    }

    public static void main(String[] args) throws Exception {
        Due due = new Due();
        Set<String> shown = new HashSet<>();
        LetterWalls x = null;
        for (String line : Files.readAllLines(README)) {
            if (line.equals("    LetterWalls x = new LetterWalls();")) {
                x = new LetterWalls();
            } else if (line.startsWith("    x.")) {
                Matcher example = EXAMPLE.matcher(line);
                boolean isExample = example.matches() && x != null;
                due.is("an example: " + line, 1, isExample ? 1 : 0);
                if (isExample) {
                    shown.add(example.group(1));
                    int got = Calls.answer(x, example.group(1), arguments(example.group(2)));
                    due.is(line.trim(), Long.parseLong(example.group(3)), got);
                }
            }
        }
        for (String name : Calls.NAMES) {
            due.is("is " + name + " shown", 1, shown.contains(name) ? 1 : 0);
        }
        due.end();
    }

    private static long[] arguments(String listed) {
        if (listed.isEmpty()) {
            return new long[0];
        }
        String[] parts = listed.split(", ");
        long[] a = new long[parts.length];
        for (int i = 0; i < parts.length; i++) {
            a[i] = Long.decode(parts[i].replace("L", ""));
        }
        return a;
    }
}
