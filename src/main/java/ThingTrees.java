/**
 * Things that hold things: rooms, boxes, tables, persons, carts and scenes; what is where, what a
 * person can touch and see, and what stands between. The promises are those of DOC.md.
 */
public final class ThingTrees {
    private static final int MOST_THINGS = 20;
    private static final int HIGHEST_MOST = 9;

    private static final int ROOM = 0;
    private static final int PLAIN = 1;
    private static final int BOX = 2;
    private static final int TABLE = 3;
    private static final int PERSON = 4;
    private static final int CART = 5;
    private static final int SCENE = 6;

    private static final int IN = 0;
    private static final int ON = 1;
    private static final int CARRIED = 2;
    private static final int WORN = 3;
    private static final int PART = 4;

    private static final int DONE = 1;
    private static final int SAME = 0;
    private static final int NONE = -1;
    private static final int OUTSIDE = -2;
    private static final int STATE = -3;
    private static final int RING = -4;
    private static final int FULL = -5;
    private static final int APART = -6;
    private static final int DARK = -7;
    private static final int NOWHERE = -8;
    private static final int BARRED = -10;

    /** By number; null for one that is gone or was not made yet. */
    private final Thing[] things = new Thing[MOST_THINGS];
    private final Changes changes = new Changes();
    /** The numbers of the latest walk, kept so that no call makes a row of its own. */
    private final int[] walked = new int[MOST_THINGS];
    /** Counts those that are gone, too: their numbers are not given again. */
    private int made;

    public ThingTrees() {
        made = 0;
    }

    public void clear() {
        for (int i = 0; i < things.length; i++) {
            things[i] = null;
        }
        made = 0;
        changes.forget();
    }

    public int thing(int kind, int most) {
        if (kind < ROOM || kind > SCENE || most < 0 || most > HIGHEST_MOST) {
            return OUTSIDE;
        }
        if (made < 0 || made >= things.length) {
            return FULL;
        }
        int number = made;
        things[number] = new Thing(number, kind, most);
        made++;
        return number;
    }

    public int move(int thing, int to, int way) {
        Thing t = find(thing);
        Thing h = find(to);
        if (t == null || h == null && to != -1) {
            return NONE;
        }
        if (way < IN || way > WORN) {
            return OUTSIDE;
        }
        if (!t.isLoose()) {
            return STATE;
        }
        return h == null ? moveNowhere(t) : moveTo(t, h, way);
    }

    public int part(int thing, int whole) {
        Thing t = find(thing);
        Thing w = find(whole);
        if (t == null || w == null) {
            return NONE;
        }
        if (!t.isLoose() || t.kind == PERSON || !w.holdsBy(PART)) {
            return STATE;
        }
        if (w.isWithin(t)) {
            return RING;
        }
        come(t, w, PART);
        return DONE;
    }

    public int open(int thing, boolean on) {
        Thing t = find(thing);
        if (t == null) {
            return NONE;
        }
        if (t.kind != BOX) {
            return STATE;
        }
        if (t.closed != on) {
            return SAME;
        }
        t.closed = !on;
        return DONE;
    }

    public int clears(int thing, boolean on) {
        Thing t = find(thing);
        if (t == null) {
            return NONE;
        }
        if (t.kind != BOX) {
            return STATE;
        }
        if (t.seenThrough == on) {
            return SAME;
        }
        t.seenThrough = on;
        return DONE;
    }

    public int lit(int thing, boolean on) {
        Thing t = find(thing);
        if (t == null) {
            return NONE;
        }
        return t.kind == ROOM ? shine(t, on) : STATE;
    }

    public int glows(int thing, boolean on) {
        Thing t = find(thing);
        if (t == null) {
            return NONE;
        }
        return t.kind == ROOM ? STATE : shine(t, on);
    }

    public int spread(int scene, int room, boolean on) {
        Thing s = find(scene);
        Thing r = find(room);
        if (s == null || r == null) {
            return NONE;
        }
        if (s.kind != SCENE || r.kind != ROOM) {
            return STATE;
        }
        if (s.isSpreadTo(r) == on) {
            return SAME;
        }
        s.rooms ^= 1 << r.number;
        return DONE;
    }

    public int take(int who, int thing) {
        Thing p = find(who);
        Thing t = find(thing);
        if (p == null || t == null) {
            return NONE;
        }
        if (p.kind != PERSON || !t.isLoose() || !t.canBeHeldBy(CARRIED)) {
            return STATE;
        }
        if (t.isHeldBy(p, CARRIED)) {
            return SAME;
        }
        if (p.isWithin(t)) {
            return RING;
        }
        int reach = Route.forTouch(p, t);
        return reach < 0 ? reach : comeUnlessFull(t, p, CARRIED);
    }

    public int drop(int who, int thing) {
        Thing p = find(who);
        Thing t = find(thing);
        if (p == null || t == null) {
            return NONE;
        }
        boolean worn = t.isHeldBy(p, WORN);
        if (p.kind != PERSON || !worn && !t.isHeldBy(p, CARRIED) || p.holder == null) {
            return STATE;
        }
        if (worn && p.isFull() || p.holder.isFull()) {
            return FULL;
        }
        if (worn) {
            come(t, p, CARRIED);
        }
        come(t, p.holder, p.way);
        return DONE;
    }

    public int put(int who, int thing, int to) {
        Thing p = find(who);
        Thing t = find(thing);
        Thing h = find(to);
        if (p == null || t == null || h == null) {
            return NONE;
        }
        if (p.kind != PERSON || !t.isHeldBy(p, CARRIED) || !h.holdsBy(IN) && !h.holdsBy(ON)) {
            return STATE;
        }
        if (h.isWithin(t)) {
            return RING;
        }
        int reach = Route.forTouchInside(p, h);
        return reach < 0 ? reach : comeUnlessFull(t, h, h.holdsBy(ON) ? ON : IN);
    }

    public int wear(int who, int thing) {
        Thing p = find(who);
        Thing t = find(thing);
        if (p == null || t == null) {
            return NONE;
        }
        boolean worn = t.isHeldBy(p, WORN);
        if (p.kind != PERSON || t.kind != PLAIN || !worn && !t.isHeldBy(p, CARRIED)) {
            return STATE;
        }
        if (worn) {
            return SAME;
        }
        come(t, p, WORN);
        return DONE;
    }

    public int enter(int who, int thing) {
        Thing p = find(who);
        Thing t = find(thing);
        if (p == null || t == null) {
            return NONE;
        }
        if (p.kind != PERSON || !t.canBeEntered()) {
            return STATE;
        }
        if (p.isHeldBy(t, IN)) {
            return SAME;
        }
        if (t.isWithin(p)) {
            return RING;
        }
        int reach = Route.forTouchInside(p, t);
        return reach < 0 ? reach : comeUnlessFull(p, t, IN);
    }

    public int leave(int who) {
        Thing p = find(who);
        if (p == null) {
            return NONE;
        }
        Thing left = p.holder;
        if (p.kind != PERSON || left == null || !left.canBeEntered()) {
            return STATE;
        }
        Thing to = left.holder;
        if (to == null || left.way != IN && left.way != ON) {
            return STATE;
        }
        return left.closed ? BARRED - left.number : comeUnlessFull(p, to, left.way);
    }

    public int go(int who, int room) {
        Thing p = find(who);
        Thing r = find(room);
        if (p == null || r == null) {
            return NONE;
        }
        Thing goer = p.holder != null && p.holder.kind == CART ? p.holder : p;
        Thing from = goer.holder;
        if (p.kind != PERSON || r.kind != ROOM || from == null || from.kind != ROOM) {
            return STATE;
        }
        return from == r ? SAME : comeUnlessFull(goer, r, IN);
    }

    public int lose(int thing) {
        Thing top = find(thing);
        if (top == null) {
            return NONE;
        }
        int length = fillWalk(top);
        top.unlink();
        discard(top);
        int gone = 1;
        for (int i = 1; i < length && i < walked.length; i++) {
            Thing t = find(walked[i]);
            if (t != null && isHolderGone(t)) {
                gone += loseHeld(t);
            }
        }
        return gone;
    }

    public int touches(int who, int thing) {
        Thing p = find(who);
        Thing t = find(thing);
        if (p == null || t == null) {
            return NONE;
        }
        return p.kind == PERSON ? Route.forTouch(p, t) : STATE;
    }

    public int sees(int who, int thing) {
        Thing p = find(who);
        Thing t = find(thing);
        if (p == null || t == null) {
            return NONE;
        }
        if (p.kind != PERSON) {
            return STATE;
        }
        int view = Route.forSight(p, t);
        if (view < 0) {
            return view;
        }
        return hasLight(p) ? DONE : DARK;
    }

    public int light(int who) {
        Thing p = find(who);
        if (p == null) {
            return NONE;
        }
        if (p.kind != PERSON) {
            return STATE;
        }
        return hasLight(p) ? 1 : 0;
    }

    public int holder(int thing) {
        Thing t = find(thing);
        return t == null ? NONE : numberOf(t.holder);
    }

    public int way(int thing) {
        Thing t = find(thing);
        return t == null ? NONE : t.way;
    }

    public int child(int thing, int i) {
        Thing t = find(thing);
        if (t == null) {
            return NONE;
        }
        int at = 0;
        for (Thing held = t.first; held != null; held = held.next) {
            if (at == i) {
                return held.number;
            }
            at++;
        }
        return OUTSIDE;
    }

    public int count(int thing) {
        Thing t = find(thing);
        return t == null ? NONE : fillWalk(t) - 1;
    }

    public int walk(int thing, int i) {
        Thing t = find(thing);
        if (t == null) {
            return NONE;
        }
        int length = fillWalk(t);
        return i < 0 || i >= length || i >= walked.length ? OUTSIDE : walked[i];
    }

    public int root(int thing) {
        Thing t = find(thing);
        return t == null ? NONE : t.topmost().number;
    }

    public int ring(int a, int b) {
        Thing top = find(a);
        Thing t = find(b);
        if (top == null || t == null) {
            return NONE;
        }
        return t.isWithin(top) ? 1 : 0;
    }

    public int row(int i, int what) {
        return changes.column(i, what);
    }

    public int told(int what) {
        switch (what) {
            case 0:
                return countThings();
            case 1:
                return changes.total;
            case 2:
                return countNowhere();
            default:
                return OUTSIDE;
        }
    }

    private Thing find(int number) {
        return number < 0 || number >= things.length ? null : things[number];
    }

    private static int numberOf(Thing t) {
        return t == null ? NOWHERE : t.number;
    }

    private int moveNowhere(Thing t) {
        if (t.holder == null) {
            return SAME;
        }
        comeNowhere(t);
        return DONE;
    }

    private int moveTo(Thing t, Thing to, int way) {
        if (!to.holdsBy(way) || !t.canBeHeldBy(way)) {
            return STATE;
        }
        if (t.isHeldBy(to, way)) {
            return SAME;
        }
        if (to.isWithin(t)) {
            return RING;
        }
        if (way != WORN) {
            return comeUnlessFull(t, to, way);
        }
        come(t, to, way);
        return DONE;
    }

    private int comeUnlessFull(Thing t, Thing to, int way) {
        if (to.isFull()) {
            return FULL;
        }
        come(t, to, way);
        return DONE;
    }

    private void come(Thing t, Thing to, int way) {
        changes.note(t.number, numberOf(t.holder), to.number, way);
        t.unlink();
        t.link(to, way);
    }

    private void comeNowhere(Thing t) {
        changes.note(t.number, numberOf(t.holder), NOWHERE, NOWHERE);
        t.unlink();
    }

    private static int shine(Thing t, boolean on) {
        if (t.shines == on) {
            return SAME;
        }
        t.shines = on;
        return DONE;
    }

    private boolean isHolderGone(Thing t) {
        return t.holder != null && find(t.holder.number) == null;
    }

    /** What a holder that is gone held: a PART is gone with it (1), all else goes NOWHERE (0). */
    private int loseHeld(Thing t) {
        if (t.way != PART) {
            comeNowhere(t);
            return 0;
        }
        discard(t);
        return 1;
    }

    private void discard(Thing t) {
        if (t.number >= 0 && t.number < things.length) {
            things[t.number] = null;
        }
    }

    private boolean hasLight(Thing p) {
        for (Thing t : things) {
            if (t != null && t.shines && Route.forSight(p, t) > 0) {
                return true;
            }
        }
        return false;
    }

    private int fillWalk(Thing top) {
        int length = 0;
        Thing t = top;
        while (t != null && length < walked.length) {
            walked[length] = t.number;
            length++;
            t = t.nextInWalk(top);
        }
        return length;
    }

    private int countThings() {
        int found = 0;
        for (Thing t : things) {
            if (t != null) {
                found++;
            }
        }
        return found;
    }

    private int countNowhere() {
        int found = 0;
        for (Thing t : things) {
            if (t != null && t.canHaveHolder() && t.holder == null) {
                found++;
            }
        }
        return found;
    }

    /** One thing, and its place in the tree: what it holds is a chain from first to last. */
    private static final class Thing {
        final int number;
        final int kind;
        final int most;
        Thing holder;
        int way;
        Thing first;
        Thing last;
        Thing previous;
        Thing next;
        boolean closed;
        boolean seenThrough;
        /** LIT for a ROOM, GLOWS for all else. */
        boolean shines;
        /** The ROOMS that a SCENE is in, one bit for each number. */
        int rooms;

        Thing(int number, int kind, int most) {
            this.number = number;
            this.kind = kind;
            this.most = most;
            this.way = NOWHERE;
            this.shines = kind == ROOM;
        }

        boolean canHaveHolder() {
            return kind != ROOM && kind != SCENE;
        }

        /** A PART never comes off what it is a part of. */
        boolean isLoose() {
            return canHaveHolder() && way != PART;
        }

        boolean canBeEntered() {
            return kind == BOX || kind == CART;
        }

        boolean canBeHeldBy(int someWay) {
            switch (someWay) {
                case CARRIED:
                    return kind != PERSON && kind != CART;
                case WORN:
                    return kind == PLAIN;
                default:
                    return true;
            }
        }

        boolean holdsBy(int someWay) {
            switch (someWay) {
                case IN:
                    return kind == ROOM || kind == BOX || kind == CART;
                case ON:
                    return kind == TABLE;
                case CARRIED:
                case WORN:
                    return kind == PERSON;
                case PART:
                    return kind != ROOM && kind != SCENE;
                default:
                    return false;
            }
        }

        boolean isHeldBy(Thing someHolder, int someWay) {
            return holder == someHolder && way == someWay;
        }

        boolean isSpreadTo(Thing room) {
            return (rooms & 1 << room.number) != 0;
        }

        boolean isFull() {
            int held = 0;
            for (Thing t = first; t != null; t = t.next) {
                if (t.way == IN || t.way == ON || t.way == CARRIED) {
                    held++;
                }
            }
            return held >= most;
        }

        /** Whether this is the one told, or under it. */
        boolean isWithin(Thing top) {
            for (Thing t = this; t != null; t = t.holder) {
                if (t == top) {
                    return true;
                }
            }
            return false;
        }

        Thing topmost() {
            Thing t = this;
            while (t.holder != null) {
                t = t.holder;
            }
            return t;
        }

        /** The one after this in the walk that begins at top; null at its end. */
        Thing nextInWalk(Thing top) {
            if (first != null) {
                return first;
            }
            for (Thing t = this; t != null && t != top; t = t.holder) {
                if (t.next != null) {
                    return t.next;
                }
            }
            return null;
        }

        void link(Thing to, int newWay) {
            holder = to;
            way = newWay;
            previous = to.last;
            if (to.last == null) {
                to.first = this;
            } else {
                to.last.next = this;
            }
            to.last = this;
        }

        void unlink() {
            if (holder == null) {
                return;
            }
            if (previous == null) {
                holder.first = next;
            } else {
                previous.next = next;
            }
            if (next == null) {
                holder.last = previous;
            } else {
                next.previous = previous;
            }
            holder = null;
            way = NOWHERE;
            previous = null;
            next = null;
        }
    }

    /** THE ROUTE from a PERSON p to a thing: 1 when nothing bars it, else the answer below 0. */
    private static final class Route {
        static int forTouch(Thing p, Thing t) {
            return follow(p, t, false);
        }

        static int forSight(Thing p, Thing t) {
            return follow(p, t, true);
        }

        /** For what is to come into t, a closed BOX is barred though it can be touched. */
        static int forTouchInside(Thing p, Thing t) {
            int reach = forTouch(p, t);
            return reach > 0 && t.closed ? BARRED - t.number : reach;
        }

        private static int follow(Thing p, Thing t, boolean sight) {
            Thing turn = turnOf(p, t);
            if (turn == null) {
                return APART;
            }
            Thing bar = firstBarUp(p, turn, sight);
            if (bar == null) {
                bar = firstBarDown(p, turn, t, sight);
            }
            return bar == null ? DONE : BARRED - bar.number;
        }

        /** Where the route ends to go up; null when there is no route. */
        private static Thing turnOf(Thing p, Thing t) {
            if (t.kind == SCENE) {
                Thing top = p.topmost();
                return top.kind == ROOM && t.isSpreadTo(top) ? top : null;
            }
            Thing turn = p;
            while (turn != null && !t.isWithin(turn)) {
                turn = turn.holder;
            }
            return turn;
        }

        private static Thing firstBarUp(Thing p, Thing turn, boolean sight) {
            for (Thing held = p; held != null && held != turn; held = held.holder) {
                if (isBarred(held, p, sight)) {
                    return held.holder;
                }
            }
            return null;
        }

        /**
         * Goes against the route, from t up, so the bar found last is the route's first. A SCENE
         * has no holder, and so no step that could be barred.
         */
        private static Thing firstBarDown(Thing p, Thing turn, Thing t, boolean sight) {
            Thing bar = null;
            for (Thing held = t; held != null && held != turn; held = held.holder) {
                if (isBarred(held, p, sight)) {
                    bar = held.holder;
                }
            }
            return bar;
        }

        /** Whether the step between a thing and its holder is barred for p. */
        private static boolean isBarred(Thing held, Thing p, boolean sight) {
            Thing by = held.holder;
            if (by == null) {
                return false;
            }
            if (held.way == IN && by.closed) {
                return !sight || !by.seenThrough;
            }
            boolean byPerson = held.way == CARRIED || held.way == WORN;
            return !sight && byPerson && by != p;
        }
    }

    /** The latest CHANGES, each a run of columns; a new one takes the place of the oldest. */
    private static final class Changes {
        private static final int KEPT = 30;
        private static final int COLUMNS = 4;

        private final int[] cells = new int[KEPT * COLUMNS];
        int total;

        void forget() {
            total = 0;
        }

        void note(int thing, int before, int then, int way) {
            int start = Math.floorMod(total, KEPT) * COLUMNS;
            cells[start] = thing;
            cells[start + 1] = before;
            cells[start + 2] = then;
            cells[start + 3] = way;
            total++;
        }

        int column(int i, int what) {
            if (what < 0 || what >= COLUMNS || i < 0 || i >= Math.min(total, KEPT)) {
                return OUTSIDE;
            }
            return cells[Math.floorMod(total - 1 - i, KEPT) * COLUMNS + what];
        }
    }
}
