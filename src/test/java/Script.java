import java.util.ArrayList;
import java.util.Arrays;
import java.util.List;
import java.util.Map;
import java.util.Set;
import java.util.TreeMap;
import java.util.TreeSet;

/**
 * Plays written runs, each on a new object. A line is a call and the answer that is due:
 *
 * <pre>
 *   box: thing BOX 9          a new thing with the next number, named box from here on
 *   move box room IN          1 is due where nothing is told
 *   take p coin = -10-box     -10 - b
 *   holds room = p box        all children in their order, and no more
 *   walks room = room p box   the whole walk and the count
 *   place coin = box IN       holder and way (none is -8)
 *   change 0 = coin p box IN  the four columns of a row
 * </pre>
 *
 * After each call that is refused, that answers 0, or that only looks, it is demanded too that
 * nothing has changed.
 */
final class Script {
    private static final Set<String> LOOKS = Set.of("touches", "sees", "light", "holder", "way",
            "child", "count", "walk", "root", "ring", "row", "told");

    private final Due due = new Due();
    /** Which answers each call gave; all that are -10 or less count as -10, all above 0 as 1. */
    private final Map<String, Set<Integer>> answered = new TreeMap<>();

    private record Line(String text, String name, String call, List<String> words,
            List<String> want) {
        static Line of(String text) {
            List<String> words = new ArrayList<>(Arrays.asList(text.split("\\s+")));
            String name = words.get(0).endsWith(":") ? words.remove(0).replace(":", "") : null;
            int equals = words.indexOf("=");
            int end = equals < 0 ? words.size() : equals;
            List<String> want = equals < 0 ? null : words.subList(end + 1, words.size());
            return new Line(text, name, words.get(0), words.subList(1, end), want);
        }
    }

    void play(String sentence, String text) {
        List<Line> lines = text.lines().map(String::strip)
                .filter(line -> !line.isEmpty() && !line.startsWith("#")).map(Line::of).toList();
        Player player = new Player();
        for (int i = 0; i < lines.size(); i++) {
            Line line = lines.get(i);
            String where = sentence + ": line " + (i + 1) + ", " + line.text;
            int answer = check(where, player, line);
            if (changesNothing(line, answer)) {
                due.yes(where + ": nothing has changed", snapshot(lines.subList(0, i))
                        .equals(snapshot(lines.subList(0, i + 1))));
            }
        }
    }

    /** That the runs so far drew each of these answers from a call (-10 for all - 10 - b). */
    void demand(String call, Integer... answers) {
        Set<Integer> got = answered.getOrDefault(call, Set.of());
        for (int answer : answers) {
            due.yes("a run in which " + call + "() answers " + answer, got.contains(answer));
        }
        due.yes(call + "() answers " + Arrays.toString(answers) + " alone, got " + got,
                Arrays.asList(answers).containsAll(got));
    }

    void end() {
        due.end();
    }

    private static boolean changesNothing(Line line, int answer) {
        return LOOKS.contains(line.call) || answer < 0 || answer == 0 && !line.call.equals("thing");
    }

    private static List<Integer> snapshot(List<Line> lines) {
        Player player = new Player();
        for (Line line : lines) {
            if (line.name != null) {
                player.name(line.name, player.made());
            }
            if (!isWhole(line)) {
                player.call(line.call, line.words);
            }
        }
        return player.snapshot();
    }

    private static boolean isWhole(Line line) {
        return Set.of("holds", "walks", "place", "change").contains(line.call);
    }

    /** Plays one line; the answer, or 1 for one that looks at several answers. */
    private int check(String where, Player player, Line line) {
        if (isWhole(line)) {
            checkWhole(where, player, line);
            return 1;
        }
        int want = 1;
        if (line.name != null) {
            want = player.made();
            player.name(line.name, want);
        } else if (line.want != null) {
            want = player.number(line.want.get(0));
        }
        return ask(where, player, line.call, line.words, want);
    }

    private void checkWhole(String where, Player player, Line line) {
        String first = line.words.get(0);
        List<String> want = line.want;
        switch (line.call) {
            case "holds":
                checkAll(where, player, "child", first, want);
                ask(where, player, "child", List.of(first, "" + want.size()), -2);
                break;
            case "walks":
                checkAll(where, player, "walk", first, want);
                ask(where, player, "walk", List.of(first, "" + want.size()), -2);
                ask(where, player, "count", List.of(first), want.size() - 1);
                break;
            case "place":
                ask(where, player, "holder", line.words, player.number(want.get(0)));
                ask(where, player, "way", line.words, player.number(want.get(1)));
                break;
            default:
                if (want.size() != 4) {
                    throw new IllegalArgumentException(where);
                }
                checkAll(where, player, "row", first, want);
                break;
        }
    }

    private void checkAll(String where, Player player, String call, String first,
            List<String> want) {
        for (int i = 0; i < want.size(); i++) {
            ask(where, player, call, List.of(first, "" + i), player.number(want.get(i)));
        }
    }

    private int ask(String where, Player player, String call, List<String> words, int want) {
        int got = player.call(call, words);
        due.is(where + ": " + call + words, got, want);
        answered.computeIfAbsent(call, name -> new TreeSet<>()).add(kindOf(call, got));
        return got;
    }

    /** A number of a thing is an answer like 1, whichever it is; 0 may be one, too. */
    private static int kindOf(String call, int answer) {
        boolean tellsNumber = Set.of("thing", "holder", "way", "child", "walk", "root", "count",
                "row", "told").contains(call);
        if (answer > 0 || answer == 0 && tellsNumber) {
            return 1;
        }
        return Math.max(answer, -10);
    }
}
