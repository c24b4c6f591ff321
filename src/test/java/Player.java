import java.util.ArrayList;
import java.util.HashMap;
import java.util.List;
import java.util.Map;

/** One object of the program under a written run: knows the names told, and counts the calls. */
final class Player {
    /** What the document promises for one object; later answers are free. */
    private static final int MOST_CALLS = 512;
    private static final List<String> KINDS =
            List.of("ROOM", "PLAIN", "BOX", "TABLE", "PERSON", "CART", "SCENE");
    private static final List<String> WAYS = List.of("IN", "ON", "CARRIED", "WORN", "PART");

    private final ThingTrees program = new ThingTrees();
    private final Map<String, Integer> names = new HashMap<>();
    /** The kind of each thing that was made, by number. */
    private final List<Integer> kinds = new ArrayList<>();
    private int calls;

    int made() {
        return kinds.size();
    }

    void name(String name, int number) {
        names.put(name, number);
    }

    int number(String word) {
        if (word.startsWith("-10-")) {
            return -10 - number(word.substring(4));
        }
        switch (word) {
            case "none": return -8;
            case "MIN": return Integer.MIN_VALUE;
            case "MAX": return Integer.MAX_VALUE;
            default: break;
        }
        if (names.containsKey(word)) {
            return names.get(word);
        }
        if (KINDS.contains(word)) {
            return KINDS.indexOf(word);
        }
        return WAYS.contains(word) ? WAYS.indexOf(word) : Integer.parseInt(word);
    }

    /** A call by its name; clear() counts as answered with 1. */
    int call(String name, List<String> words) {
        calls++;
        if (calls > MOST_CALLS) {
            throw new IllegalStateException("a written run is too long for one object");
        }
        boolean on = !words.isEmpty() && words.get(words.size() - 1).equals("on");
        int a = argument(words, 0);
        int b = argument(words, 1);
        int c = argument(words, 2);
        switch (name) {
            case "clear": return clear();
            case "thing": return thing(a, b);
            case "move": return program.move(a, b, c);
            case "part": return program.part(a, b);
            case "open": return program.open(a, on);
            case "clears": return program.clears(a, on);
            case "lit": return program.lit(a, on);
            case "glows": return program.glows(a, on);
            case "spread": return program.spread(a, b, on);
            case "take": return program.take(a, b);
            case "drop": return program.drop(a, b);
            case "put": return program.put(a, b, c);
            case "wear": return program.wear(a, b);
            case "enter": return program.enter(a, b);
            case "leave": return program.leave(a);
            case "go": return program.go(a, b);
            case "lose": return program.lose(a);
            default: return look(name, a, b);
        }
    }

    private int look(String name, int a, int b) {
        switch (name) {
            case "touches": return program.touches(a, b);
            case "sees": return program.sees(a, b);
            case "light": return program.light(a);
            case "holder": return program.holder(a);
            case "way": return program.way(a);
            case "child": return program.child(a, b);
            case "count": return program.count(a);
            case "walk": return program.walk(a, b);
            case "root": return program.root(a);
            case "ring": return program.ring(a, b);
            case "row": return program.row(a, b);
            case "told": return program.told(a);
            default: throw new IllegalArgumentException("no such call: " + name);
        }
    }

    private int argument(List<String> words, int at) {
        if (at >= words.size() || words.get(at).equals("on") || words.get(at).equals("off")) {
            return 0;
        }
        return number(words.get(at));
    }

    private int clear() {
        program.clear();
        kinds.clear();
        return 1;
    }

    private int thing(int kind, int most) {
        int number = program.thing(kind, most);
        if (number >= 0) {
            kinds.add(kind);
        }
        return number;
    }

    private int ask(String name, Object... words) {
        List<String> texts = new ArrayList<>();
        for (Object word : words) {
            texts.add(String.valueOf(word));
        }
        return call(name, texts);
    }

    /** All that the object can tell of itself. The object is spent then: it has a thing more. */
    List<Integer> snapshot() {
        List<Integer> all = new ArrayList<>();
        for (int what = 0; what < 3; what++) {
            all.add(ask("told", what));
        }
        for (int t = 0; t < made(); t++) {
            all.add(ask("holder", t));
            all.add(ask("way", t));
            addUntilNone(all, "child", t);
            addSwitches(all, t);
        }
        for (int i = 0; ask("row", i, 0) != -2; i++) {
            for (int what = 0; what < 4; what++) {
                all.add(ask("row", i, what));
            }
        }
        all.add(ask("thing", 0, 0));
        return all;
    }

    private void addUntilNone(List<Integer> all, String name, int t) {
        int got = ask(name, t, 0);
        for (int i = 1; got >= 0 && i <= 20; i++) {
            all.add(got);
            got = ask(name, t, i);
        }
        all.add(got);
    }

    private void addSwitches(List<Integer> all, int t) {
        for (String name : List.of("open", "clears", "lit", "glows")) {
            all.add(ask(name, t, "on"));
            if (all.get(all.size() - 1) == 1) {
                ask(name, t, "off");
            }
        }
        for (int room = 0; isOfKind(t, "SCENE") && room < made(); room++) {
            if (!isOfKind(room, "ROOM")) {
                continue;
            }
            all.add(ask("spread", t, room, "on"));
            if (all.get(all.size() - 1) == 1) {
                ask("spread", t, room, "off");
            }
        }
    }

    private boolean isOfKind(int t, String kind) {
        return KINDS.get(kinds.get(t)).equals(kind);
    }
}
