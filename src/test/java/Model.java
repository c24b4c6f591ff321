import java.util.ArrayList;
import java.util.HashSet;
import java.util.List;
import java.util.Set;

/**
 * The document written a second time, without regard to speed: one list of all "a holds b by way
 * w" in the order of their coming, from which everything else is looked up anew at each call.
 */
final class Model {
    private record Held(int thing, int holder, int way) { }

    private record Change(int thing, int before, int then, int way) { }

    private final List<int[]> made = new ArrayList<>();
    private final Set<Integer> gone = new HashSet<>();
    private final Set<Integer> closed = new HashSet<>();
    private final Set<Integer> clear = new HashSet<>();
    private final Set<Integer> unlit = new HashSet<>();
    private final Set<Integer> glowing = new HashSet<>();
    private final Set<List<Integer>> sceneRooms = new HashSet<>();
    private final List<Held> holdings = new ArrayList<>();
    private final List<Change> changes = new ArrayList<>();

    void clear() {
        made.clear();
        gone.clear();
        closed.clear();
        clear.clear();
        unlit.clear();
        glowing.clear();
        sceneRooms.clear();
        holdings.clear();
        changes.clear();
    }

    int thing(int kind, int most) {
        if (kind < 0 || kind > 6 || most < 0 || most > 9) return -2;
        if (made.size() == 20) return -5;
        made.add(new int[] {kind, most});
        return made.size() - 1;
    }

    private boolean none(int... numbers) {
        for (int n : numbers) {
            if (n < 0 || n >= made.size() || gone.contains(n)) return true;
        }
        return false;
    }

    private boolean kind(int t, int... kinds) {
        for (int k : kinds) {
            if (made.get(t)[0] == k) return true;
        }
        return false;
    }

    /** For the choice of calls alone. */
    boolean isOfKind(int t, int kind) {
        return !none(t) && kind(t, kind);
    }

    private Held of(int t) {
        for (Held h : holdings) {
            if (h.thing == t) return h;
        }
        return new Held(t, -8, -8);
    }

    private List<Integer> held(int t) {
        List<Integer> list = new ArrayList<>();
        for (Held h : holdings) {
            if (h.holder == t) list.add(h.thing);
        }
        return list;
    }

    private boolean full(int t) {
        int n = 0;
        for (Held h : holdings) {
            if (h.holder == t && h.way <= 2) n++;
        }
        return n == made.get(t)[1];
    }

    private List<Integer> walk(int t) {
        List<Integer> list = new ArrayList<>();
        list.add(t);
        for (int c : held(t)) list.addAll(walk(c));
        return list;
    }

    private boolean under(int t, int top) {
        return t != top && walk(top).contains(t);
    }

    private void come(int t, int to, int way) {
        changes.add(new Change(t, of(t).holder, to, way));
        holdings.remove(of(t));
        if (to >= 0) holdings.add(new Held(t, to, way));
    }

    int move(int t, int to, int way) {
        if (none(t) || to != -1 && none(to)) return -1;
        if (way < 0 || way > 3) return -2;
        if (kind(t, 0, 6) || of(t).way == 4) return -3;
        if (to == -1) {
            if (of(t).holder == -8) return 0;
            come(t, -8, -8);
            return 1;
        }
        boolean holds = way == 0 ? kind(to, 0, 2, 5) : way == 1 ? kind(to, 3) : kind(to, 4);
        if (!holds || way == 2 && kind(t, 4, 5) || way == 3 && !kind(t, 1)) return -3;
        if (of(t).holder == to && of(t).way == way) return 0;
        if (to == t || under(to, t)) return -4;
        if (way != 3 && full(to)) return -5;
        come(t, to, way);
        return 1;
    }

    int part(int t, int whole) {
        if (none(t, whole)) return -1;
        if (kind(t, 0, 6, 4) || of(t).way == 4 || kind(whole, 0, 6)) return -3;
        if (whole == t || under(whole, t)) return -4;
        come(t, whole, 4);
        return 1;
    }

    private static int flag(Set<Integer> set, int t, boolean on) {
        return (on ? set.add(t) : set.remove(t)) ? 1 : 0;
    }

    int open(int t, boolean on) {
        return none(t) ? -1 : kind(t, 2) ? flag(closed, t, !on) : -3;
    }

    int clears(int t, boolean on) {
        return none(t) ? -1 : kind(t, 2) ? flag(clear, t, on) : -3;
    }

    int lit(int t, boolean on) {
        return none(t) ? -1 : kind(t, 0) ? flag(unlit, t, !on) : -3;
    }

    int glows(int t, boolean on) {
        return none(t) ? -1 : kind(t, 0) ? -3 : flag(glowing, t, on);
    }

    int spread(int scene, int room, boolean on) {
        if (none(scene, room)) return -1;
        if (!kind(scene, 6) || !kind(room, 0)) return -3;
        List<Integer> pair = List.of(scene, room);
        return (on ? sceneRooms.add(pair) : sceneRooms.remove(pair)) ? 1 : 0;
    }

    int take(int who, int t) {
        if (none(who, t)) return -1;
        if (!kind(who, 4) || kind(t, 0, 6, 4, 5) || of(t).way == 4) return -3;
        if (of(t).holder == who && of(t).way == 2) return 0;
        if (under(who, t)) return -4;
        int reach = touches(who, t);
        if (reach != 1) return reach;
        if (full(who)) return -5;
        come(t, who, 2);
        return 1;
    }

    int drop(int who, int t) {
        if (none(who, t)) return -1;
        Held h = of(t);
        Held w = of(who);
        if (!kind(who, 4) || h.holder != who || h.way != 2 && h.way != 3) return -3;
        if (w.holder == -8) return -3;
        if (h.way == 3 && full(who) || full(w.holder)) return -5;
        if (h.way == 3) come(t, who, 2);
        come(t, w.holder, w.way);
        return 1;
    }

    int put(int who, int t, int to) {
        if (none(who, t, to)) return -1;
        if (!kind(who, 4) || of(t).holder != who || of(t).way != 2) return -3;
        if (!kind(to, 0, 2, 3, 5)) return -3;
        if (to == t || under(to, t)) return -4;
        int reach = touches(who, to);
        if (reach != 1) return reach;
        if (closed.contains(to)) return -10 - to;
        if (full(to)) return -5;
        come(t, to, kind(to, 3) ? 1 : 0);
        return 1;
    }

    int wear(int who, int t) {
        if (none(who, t)) return -1;
        if (!kind(who, 4) || !kind(t, 1) || of(t).holder != who) return -3;
        if (of(t).way == 3) return 0;
        if (of(t).way != 2) return -3;
        come(t, who, 3);
        return 1;
    }

    int enter(int who, int t) {
        if (none(who, t)) return -1;
        if (!kind(who, 4) || !kind(t, 2, 5)) return -3;
        if (of(who).holder == t && of(who).way == 0) return 0;
        if (under(t, who)) return -4;
        int reach = touches(who, t);
        if (reach != 1) return reach;
        if (closed.contains(t)) return -10 - t;
        if (full(t)) return -5;
        come(who, t, 0);
        return 1;
    }

    int leave(int who) {
        if (none(who)) return -1;
        int from = of(who).holder;
        if (!kind(who, 4) || from == -8 || !kind(from, 2, 5)) return -3;
        Held h = of(from);
        if (h.holder == -8 || h.way != 0 && h.way != 1) return -3;
        if (closed.contains(from)) return -10 - from;
        if (full(h.holder)) return -5;
        come(who, h.holder, h.way);
        return 1;
    }

    int go(int who, int room) {
        if (none(who, room)) return -1;
        if (!kind(who, 4) || !kind(room, 0)) return -3;
        int goer = who;
        if (of(who).holder != -8 && kind(of(who).holder, 5)) goer = of(who).holder;
        int from = of(goer).holder;
        if (from == -8 || !kind(from, 0)) return -3;
        if (from == room) return 0;
        if (full(room)) return -5;
        come(goer, room, 0);
        return 1;
    }

    int lose(int t) {
        if (none(t)) return -1;
        Set<Integer> going = new HashSet<>();
        partsOf(t, going);
        List<Integer> freed = new ArrayList<>();
        for (int w : walk(t)) {
            if (!going.contains(w) && going.contains(of(w).holder)) freed.add(w);
        }
        for (int f : freed) come(f, -8, -8);
        for (int g : going) holdings.remove(of(g));
        gone.addAll(going);
        return going.size();
    }

    private void partsOf(int t, Set<Integer> parts) {
        parts.add(t);
        for (int c : held(t)) {
            if (of(c).way == 4) partsOf(c, parts);
        }
    }

    /** The steps of the route from p on, or null when they are APART. */
    private List<Held> route(int p, int t) {
        List<Held> steps = new ArrayList<>();
        int at = p;
        if (kind(t, 6)) {
            while (of(at).holder != -8) {
                steps.add(of(at));
                at = of(at).holder;
            }
            return kind(at, 0) && sceneRooms.contains(List.of(t, at)) ? steps : null;
        }
        while (at != t && !under(t, at)) {
            if (of(at).holder == -8) return null;
            steps.add(of(at));
            at = of(at).holder;
        }
        int top = steps.size();
        for (int down = t; down != at; down = of(down).holder) steps.add(top, of(down));
        return steps;
    }

    int touches(int who, int t) {
        if (none(who, t)) return -1;
        if (!kind(who, 4)) return -3;
        List<Held> steps = route(who, t);
        if (steps == null) return -6;
        for (Held s : steps) {
            if (closed.contains(s.holder) && s.way == 0) return -10 - s.holder;
            if (kind(s.holder, 4) && s.holder != who && (s.way == 2 || s.way == 3)) {
                return -10 - s.holder;
            }
        }
        return 1;
    }

    private int sight(int who, int t) {
        List<Held> steps = route(who, t);
        if (steps == null) return -6;
        for (Held s : steps) {
            if (closed.contains(s.holder) && s.way == 0 && !clear.contains(s.holder)) {
                return -10 - s.holder;
            }
        }
        return 1;
    }

    int sees(int who, int t) {
        if (none(who, t)) return -1;
        if (!kind(who, 4)) return -3;
        int view = sight(who, t);
        return view != 1 ? view : light(who) == 1 ? 1 : -7;
    }

    int light(int who) {
        if (none(who)) return -1;
        if (!kind(who, 4)) return -3;
        for (int t = 0; t < made.size(); t++) {
            if (none(t)) continue;
            boolean shines = kind(t, 0) ? !unlit.contains(t) : glowing.contains(t);
            if (shines && sight(who, t) == 1) return 1;
        }
        return 0;
    }

    int holder(int t) {
        return none(t) ? -1 : of(t).holder;
    }

    int way(int t) {
        return none(t) ? -1 : of(t).way;
    }

    int child(int t, int i) {
        if (none(t)) return -1;
        return i < 0 || i >= held(t).size() ? -2 : held(t).get(i);
    }

    int count(int t) {
        return none(t) ? -1 : walk(t).size() - 1;
    }

    int walk(int t, int i) {
        if (none(t)) return -1;
        return i < 0 || i >= walk(t).size() ? -2 : walk(t).get(i);
    }

    int root(int t) {
        if (none(t)) return -1;
        int top = t;
        while (of(top).holder != -8) top = of(top).holder;
        return top;
    }

    int ring(int a, int b) {
        return none(a, b) ? -1 : a == b || under(b, a) ? 1 : 0;
    }

    int row(int i, int what) {
        if (i < 0 || i >= 30 || i >= changes.size() || what < 0 || what > 3) return -2;
        Change c = changes.get(changes.size() - 1 - i);
        return new int[] {c.thing, c.before, c.then, c.way}[what];
    }

    int told(int what) {
        if (what == 0) return made.size() - gone.size();
        if (what == 1) return changes.size();
        if (what != 2) return -2;
        int n = 0;
        for (int t = 0; t < made.size(); t++) {
            if (!none(t) && !kind(t, 0, 6) && of(t).holder == -8) n++;
        }
        return n;
    }
}
