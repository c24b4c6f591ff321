import java.io.IOException;
import java.lang.reflect.Method;
import java.lang.reflect.Modifier;
import java.nio.file.Files;
import java.nio.file.Path;
import java.util.ArrayList;
import java.util.List;
import java.util.Set;
import java.util.TreeSet;
import java.util.regex.Matcher;
import java.util.regex.Pattern;

/** README.md tells of every call of the face, and its example answers as it says. */
public final class ReadmeTest {
    private static final Pattern EXAMPLE =
            Pattern.compile("(?:int (\\w+) = )?x\\.(\\w+)\\((.*)\\);\\s+// (-?\\d+)(?::.*)?");
    private static final Pattern TABLE_ROW = Pattern.compile("\\| `(\\w+)\\(([^)]*)\\)` \\|.*");

    private static final Due DUE = new Due();

    public static void main(String[] args) throws IOException {
        List<String> lines = Files.readAllLines(Path.of("README.md"));
        demandEveryCall(lines);
        playTheExample(lines);
        DUE.end();
    }

    private static void demandEveryCall(List<String> lines) {
        List<String> told = new ArrayList<>();
        for (String line : lines) {
            Matcher row = TABLE_ROW.matcher(line);
            if (row.matches()) {
                told.add(row.group(1) + " " + wordsOf(row.group(2)).size());
            }
        }
        Set<String> face = new TreeSet<>();
        for (Method m : ThingTrees.class.getDeclaredMethods()) {
            if (Modifier.isPublic(m.getModifiers())) {
                face.add(m.getName() + " " + m.getParameterCount());
            }
        }
        DUE.yes("README.md tells once of each of " + face + " and of no other, told are " + told,
                new TreeSet<>(told).equals(face) && told.size() == face.size());
    }

    private static void playTheExample(List<String> lines) {
        int start = lines.indexOf("ThingTrees x = new ThingTrees();");
        DUE.yes("README.md has an example", start >= 0);
        Player player = new Player();
        int played = 0;
        for (String line : lines.subList(start + 1, lines.size())) {
            Matcher call = EXAMPLE.matcher(line);
            if (!call.matches()) {
                DUE.yes("an example line of this form: " + line, line.equals("```"));
                break;
            }
            int got = player.call(call.group(2), wordsOf(call.group(3)));
            DUE.is("README.md: " + line, got, Integer.parseInt(call.group(4)));
            if (call.group(1) != null) {
                player.name(call.group(1), got);
            }
            played++;
        }
        DUE.yes("the example makes calls", played > 0);
    }

    private static List<String> wordsOf(String arguments) {
        List<String> words = new ArrayList<>();
        for (String word : arguments.split(",")) {
            String text = word.strip();
            if (!text.isEmpty()) {
                words.add(text.equals("true") ? "on" : text.equals("false") ? "off" : text);
            }
        }
        return words;
    }
}
