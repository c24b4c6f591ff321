/** Promises 1 to 10: making things, the maker's hand, parts, and what a thing is like. */
public final class PromisesOneToTenTest {
    private static final Due DUE = new Due();
    private static final int[] WRONG = {-1, -2, 20, Integer.MAX_VALUE, Integer.MIN_VALUE};

    public static void main(String[] args) {
        aNewObject(new ThingTrees(), "promise 1");
        clearMakesItNew();
        thingsAndTheirLimits();
        moveToHolders();
        moveNowhere();
        moveIsRefused();
        moveOrderOfAnswers();
        moveAndFull();
        partsComeToWholes();
        partIsRefused();
        openAndClears();
        litAndGlows();
        spreadOfScenes();
        DUE.end();
    }

    private static void aNewObject(ThingTrees x, String where) {
        DUE.is(where + ": told(0)", x.told(0), 0);
        DUE.is(where + ": told(1)", x.told(1), 0);
        DUE.is(where + ": told(2)", x.told(2), 0);
        DUE.is(where + ": row(0, 0)", x.row(0, 0), -2);
        for (int t = 0; t < 20; t++) {
            DUE.is(where + ": root(" + t + ")", x.root(t), -1);
        }
        DUE.is(where + ": thing(0, 0)", x.thing(0, 0), 0);
    }

    private static void clearMakesItNew() {
        ThingTrees x = new ThingTrees();
        int room = x.thing(0, 9);
        int scene = x.thing(6, 0);
        int box = x.thing(2, 9);
        x.spread(scene, room, true);
        x.move(box, room, 0);
        x.open(box, false);
        x.clears(box, true);
        x.lit(room, false);
        x.glows(box, true);
        x.lose(scene);
        x.clear();
        aNewObject(x, "promise 2");
        DUE.is("a new scene", x.thing(6, 0), 1);
        DUE.is("a new box", x.thing(2, 9), 2);
        DUE.is("the scene is in no room", x.spread(1, 0, false), 0);
        DUE.is("the box is open", x.open(2, true), 0);
        DUE.is("the box is not clear", x.clears(2, false), 0);
        DUE.is("the room is lit", x.lit(0, true), 0);
        DUE.is("the box does not glow", x.glows(2, false), 0);
        DUE.place("the box", x, 2, -8, -8);
        DUE.children("the room", x, 0);
        for (int t = 3; t < 20; t++) {
            DUE.is("thing(1, 1) after clear", x.thing(1, 1), t);
        }
        DUE.is("the 21st after clear", x.thing(1, 1), -5);
        x.clear();
        x.clear();
        aNewObject(x, "promise 2, twice");
    }

    private static void thingsAndTheirLimits() {
        ThingTrees x = new ThingTrees();
        for (int wrong : new int[] {-1, 7, Integer.MAX_VALUE, Integer.MIN_VALUE}) {
            DUE.is("thing(" + wrong + ", 0)", x.thing(wrong, 0), -2);
        }
        for (int wrong : new int[] {-1, 10, Integer.MAX_VALUE, Integer.MIN_VALUE}) {
            DUE.is("thing(0, " + wrong + ")", x.thing(0, wrong), -2);
        }
        for (int t = 0; t < 20; t++) {
            DUE.is("the thing " + t, x.thing(t % 7, t % 10), t);
            DUE.place("a new one", x, t, -8, -8);
        }
        DUE.is("no change is made by it", x.told(1), 0);
        DUE.is("the 21st", x.thing(0, 0), -5);
        DUE.is("-2 ahead of -5", x.thing(7, 0), -2);
        DUE.is("-2 ahead of -5", x.thing(0, 10), -2);
        DUE.is("lose(19)", x.lose(19), 1);
        DUE.is("one that is gone counts as made", x.thing(0, 0), -5);
    }

    /** 0 ROOM, 1 PLAIN, 2 BOX, 3 TABLE, 4 PERSON, 5 CART, 6 SCENE, 7 ROOM, 8 PLAIN; MOST 9. */
    private static ThingTrees oneOfEach() {
        ThingTrees x = new ThingTrees();
        for (int kind : new int[] {0, 1, 2, 3, 4, 5, 6, 0, 1}) {
            x.thing(kind, 9);
        }
        return x;
    }

    private static void moveToHolders() {
        int[][] holds = {{0}, {}, {0}, {1}, {2, 3}, {0}, {}, {0}, {}};
        for (int to = 0; to < holds.length; to++) {
            for (int way = 0; way <= 3; way++) {
                ThingTrees x = oneOfEach();
                int thing = to == 1 ? 8 : 1;
                boolean does = holds[to].length > 0 && (holds[to][0] == way
                        || holds[to].length > 1 && holds[to][1] == way);
                String call = "move(" + thing + ", " + to + ", " + way + ")";
                DUE.is(call, x.move(thing, to, way), does ? 1 : -3);
                DUE.place(call, x, thing, does ? to : -8, does ? way : -8);
                DUE.is(call + " again", x.move(thing, to, way), does ? 0 : -3);
                DUE.is("changes of " + call, x.told(1), does ? 1 : 0);
            }
        }
        ThingTrees x = oneOfEach();
        for (int t : new int[] {1, 2, 3, 4, 5}) {
            DUE.is("move(" + t + ", 0, 0)", x.move(t, 0, 0), 1);
        }
        DUE.children("in the order of coming", x, 0, 1, 2, 3, 4, 5);
        DUE.is("from one holder to another", x.move(1, 4, 3), 1);
        DUE.is("by another way", x.move(8, 4, 2), 1);
        DUE.children("worn, carried", x, 4, 1, 8);
        DUE.is("the same holder, another way", x.move(1, 4, 2), 1);
        DUE.children("comes anew", x, 4, 8, 1);
        DUE.is("there so already", x.move(8, 4, 2), 0);
        DUE.children("stays", x, 4, 8, 1);
        DUE.children("the rest", x, 0, 2, 3, 4, 5);
        DUE.is("a person on a table", x.move(4, 3, 1), 1);
        DUE.is("a cart in a box", x.move(5, 2, 0), 1);
        DUE.walk("all", x, 0, 0, 2, 5, 3, 4, 8, 1);
    }

    private static void moveNowhere() {
        ThingTrees x = oneOfEach();
        DUE.is("NOWHERE already", x.move(1, -1, 0), 0);
        x.move(1, 2, 0);
        DUE.is("way 4", x.move(1, -1, 4), -2);
        DUE.is("way -1", x.move(1, -1, -1), -2);
        DUE.is("any way 0 .. 3", x.move(1, -1, 3), 1);
        DUE.place("it is NOWHERE", x, 1, -8, -8);
        DUE.children("the box", x, 2);
        DUE.row("a change", x, 0, 1, 2, -8, -8);
        DUE.is("again", x.move(1, -1, 0), 0);
        x.move(4, 0, 0);
        DUE.is("a person, though the way is 2", x.move(4, -1, 2), 1);
        DUE.is("a cart that is NOWHERE, way 2", x.move(5, -1, 2), 0);
        DUE.is("a box that is NOWHERE, way 3", x.move(2, -1, 3), 0);
        DUE.is("a room", x.move(0, -1, 0), -3);
        DUE.is("a scene", x.move(6, -1, 0), -3);
        x.part(1, 2);
        DUE.is("a part", x.move(1, -1, 0), -3);
        DUE.is("a room, way 4", x.move(0, -1, 4), -2);
    }

    private static void moveIsRefused() {
        ThingTrees x = oneOfEach();
        for (int wrong : WRONG) {
            DUE.is("move(" + wrong + ", 0, 0)", x.move(wrong, 0, 0), -1);
            DUE.is("move(" + wrong + ", 0, 9)", x.move(wrong, 0, 9), -1);
            if (wrong != -1) {
                DUE.is("move(1, " + wrong + ", 0)", x.move(1, wrong, 0), -1);
            }
        }
        DUE.is("way 4", x.move(1, 0, 4), -2);
        DUE.is("way -1", x.move(1, 0, -1), -2);
        DUE.is("way MAX", x.move(1, 0, Integer.MAX_VALUE), -2);
        DUE.is("a room", x.move(7, 0, 0), -3);
        DUE.is("a scene", x.move(6, 0, 0), -3);
        DUE.is("a person carried", x.move(4, 4, 2), -3);
        DUE.is("a cart carried", x.move(5, 4, 2), -3);
        DUE.is("a table carried", x.move(3, 4, 2), 1);
        DUE.is("a box carried", x.move(2, 4, 2), 1);
        DUE.is("a box worn", x.move(2, 4, 3), -3);
        DUE.is("a table worn", x.move(3, 4, 3), -3);
        DUE.is("a cart worn", x.move(5, 4, 3), -3);
        x.part(1, 2);
        DUE.is("a part", x.move(1, 0, 0), -3);
        x.lose(8);
        DUE.is("one that is gone", x.move(8, 0, 0), -1);
        x.lose(7);
        DUE.is("to one that is gone", x.move(5, 7, 0), -1);
        DUE.is("changes", x.told(1), 3);
    }

    private static void moveOrderOfAnswers() {
        ThingTrees x = new ThingTrees();
        int room = x.thing(0, 1);
        int box = x.thing(2, 0);
        int inner = x.thing(2, 1);
        int person = x.thing(4, 1);
        DUE.is("-4 ahead of -5: itself", x.move(box, box, 0), -4);
        DUE.is("-5", x.move(inner, box, 0), -5);
        x.move(person, inner, 0);
        DUE.is("-4: the person is in it, and not full", x.move(inner, person, 2), -4);
        DUE.is("-3 ahead of -4", x.move(inner, person, 1), -3);
        DUE.is("in the room", x.move(inner, room, 0), 1);
        DUE.is("0 ahead of -5", x.move(inner, room, 0), 0);
        DUE.is("the room is full", x.move(box, room, 0), -5);
        DUE.is("-3 ahead of -5", x.move(box, room, 1), -3);
        DUE.is("-2 ahead of -3", x.move(room, inner, 4), -2);
        DUE.is("changes", x.told(1), 2);
    }

    private static void moveAndFull() {
        ThingTrees x = new ThingTrees();
        int person = x.thing(4, 1);
        int a = x.thing(1, 0);
        int b = x.thing(1, 0);
        int c = x.thing(1, 0);
        DUE.is("one is carried", x.move(a, person, 2), 1);
        DUE.is("no more", x.move(b, person, 2), -5);
        DUE.is("but worn", x.move(b, person, 3), 1);
        DUE.is("and a part", x.part(c, person), 1);
        DUE.is("the worn one cannot be carried", x.move(b, person, 2), -5);
        DUE.is("the carried one is worn", x.move(a, person, 3), 1);
        DUE.is("what is worn or a part does not fill", x.move(b, person, 2), 1);
        DUE.children("their order", x, person, c, a, b);
        int table = x.thing(3, 2);
        int d = x.thing(1, 0);
        DUE.is("on", x.move(a, table, 1), 1);
        DUE.is("on", x.move(b, table, 1), 1);
        DUE.is("the table is full", x.move(d, table, 1), -5);
        DUE.is("0 on the full one", x.move(b, table, 1), 0);
        DUE.is("off", x.move(a, -1, 1), 1);
        DUE.is("there is room again", x.move(d, table, 1), 1);
    }

    private static void partsComeToWholes() {
        int[] wholes = {2, 3, 4, 5, 8};
        for (int whole : wholes) {
            ThingTrees x = oneOfEach();
            x.move(1, 0, 0);
            DUE.is("part(1, " + whole + ")", x.part(1, whole), 1);
            DUE.place("the part", x, 1, whole, 4);
            DUE.children("it left the room", x, 0);
            DUE.row("a change", x, 0, 1, 0, whole, 4);
            DUE.is("once and for all", x.part(1, whole), -3);
        }
        ThingTrees x = oneOfEach();
        DUE.is("a box", x.part(2, 1), 1);
        DUE.is("a table", x.part(3, 1), 1);
        DUE.is("a cart", x.part(5, 1), 1);
        DUE.children("of a plain thing", x, 1, 2, 3, 5);
        ThingTrees y = new ThingTrees();
        int box = y.thing(2, 0);
        DUE.is("a part to one that is full", y.part(y.thing(1, 0), box), 1);
        int person = y.thing(4, 1);
        int hat = y.thing(1, 0);
        int ring = y.thing(1, 0);
        y.move(hat, person, 2);
        y.move(ring, person, 3);
        DUE.is("carried, then a part of the same one", y.part(hat, person), 1);
        DUE.children("it came anew", y, person, ring, hat);
    }

    private static void partIsRefused() {
        ThingTrees x = oneOfEach();
        for (int wrong : WRONG) {
            DUE.is("part(" + wrong + ", 1)", x.part(wrong, 1), -1);
            DUE.is("part(1, " + wrong + ")", x.part(1, wrong), -1);
        }
        DUE.is("a room", x.part(0, 1), -3);
        DUE.is("a scene", x.part(6, 1), -3);
        DUE.is("a person", x.part(4, 1), -3);
        DUE.is("of a room", x.part(1, 0), -3);
        DUE.is("of a scene", x.part(1, 6), -3);
        DUE.is("of itself", x.part(1, 1), -4);
        DUE.is("a person of itself", x.part(4, 4), -3);
        x.part(1, 2);
        x.part(8, 1);
        DUE.is("a part of another one", x.part(1, 3), -3);
        DUE.is("a ring", x.part(2, 1), -4);
        DUE.is("a longer ring", x.part(2, 8), -4);
        x.move(3, 2, 0);
        DUE.is("a ring by what is in it", x.part(2, 3), -4);
        x.lose(5);
        DUE.is("of one that is gone", x.part(3, 5), -1);
        DUE.is("changes", x.told(1), 3);
    }

    private static void openAndClears() {
        ThingTrees x = oneOfEach();
        DUE.is("open at first", x.open(2, true), 0);
        DUE.is("closed", x.open(2, false), 1);
        DUE.is("closed already", x.open(2, false), 0);
        DUE.is("open again", x.open(2, true), 1);
        DUE.is("not clear at first", x.clears(2, false), 0);
        DUE.is("clear", x.clears(2, true), 1);
        DUE.is("clear already", x.clears(2, true), 0);
        DUE.is("not clear", x.clears(2, false), 1);
        for (int other : new int[] {0, 1, 3, 4, 5, 6}) {
            DUE.is("open(" + other + ")", x.open(other, true), -3);
            DUE.is("clears(" + other + ")", x.clears(other, false), -3);
        }
        x.lose(2);
        DUE.is("gone", x.open(2, false), -1);
        DUE.is("gone", x.clears(2, true), -1);
        for (int wrong : WRONG) {
            DUE.is("open(" + wrong + ")", x.open(wrong, true), -1);
            DUE.is("clears(" + wrong + ")", x.clears(wrong, true), -1);
        }
        DUE.is("these are no changes", x.told(1), 0);
    }

    private static void litAndGlows() {
        ThingTrees x = oneOfEach();
        DUE.is("lit at first", x.lit(0, true), 0);
        DUE.is("unlit", x.lit(0, false), 1);
        DUE.is("unlit already", x.lit(0, false), 0);
        DUE.is("lit again", x.lit(0, true), 1);
        DUE.is("a room does not glow", x.glows(0, true), -3);
        DUE.is("nor not", x.glows(0, false), -3);
        for (int other = 1; other <= 6; other++) {
            DUE.is("lit(" + other + ")", x.lit(other, false), -3);
            DUE.is("at first", x.glows(other, false), 0);
            DUE.is("glows", x.glows(other, true), 1);
            DUE.is("already", x.glows(other, true), 0);
            DUE.is("no more", x.glows(other, false), 1);
        }
        x.lose(0);
        x.lose(1);
        DUE.is("gone", x.lit(0, false), -1);
        DUE.is("gone", x.glows(1, true), -1);
        for (int wrong : WRONG) {
            DUE.is("lit(" + wrong + ")", x.lit(wrong, true), -1);
            DUE.is("glows(" + wrong + ")", x.glows(wrong, true), -1);
        }
    }

    private static void spreadOfScenes() {
        ThingTrees x = oneOfEach();
        DUE.is("in none at first", x.spread(6, 0, false), 0);
        DUE.is("in one", x.spread(6, 0, true), 1);
        DUE.is("already", x.spread(6, 0, true), 0);
        DUE.is("in no other", x.spread(6, 7, false), 0);
        DUE.is("in two", x.spread(6, 7, true), 1);
        DUE.is("out of one", x.spread(6, 0, false), 1);
        DUE.is("still in the other", x.spread(6, 7, true), 0);
        for (int other : new int[] {0, 1, 2, 3, 4, 5}) {
            DUE.is("spread(" + other + ", 0)", x.spread(other, 0, true), -3);
        }
        for (int other = 1; other <= 6; other++) {
            DUE.is("spread(6, " + other + ")", x.spread(6, other, true), -3);
        }
        for (int wrong : WRONG) {
            DUE.is("spread(" + wrong + ", 0)", x.spread(wrong, 0, true), -1);
            DUE.is("spread(6, " + wrong + ")", x.spread(6, wrong, true), -1);
        }
        DUE.place("no holder", x, 6, -8, -8);
        DUE.children("holds nothing, nor is it held", x, 7);
        x.lose(7);
        DUE.is("the room is gone", x.spread(6, 7, false), -1);
        x.lose(6);
        DUE.is("the scene is gone", x.spread(6, 0, true), -1);
        DUE.is("these are no changes", x.told(1), 0);
    }
}
