/** Promises 19 to 30: touch, sight and light, what is where, and the changes. */
public final class PromisesNineteenToThirtyTest {
    private static final Due DUE = new Due();
    private static final int[] WRONG = {-1, -2, 20, Integer.MAX_VALUE, Integer.MIN_VALUE};

    public static void main(String[] args) {
        wrongThings();
        routesAndApart();
        touchIsBarred();
        theFirstBarTells();
        scenes();
        sightIsBarred();
        sightWantsLight();
        lightOfRooms();
        lightOfThingsThatGlow();
        places();
        walks();
        rootsAndRings();
        rows();
        rowsThatAreKept();
        tallies();
        theLastCallThatIsPromised();
        DUE.end();
    }

    private static void wrongThings() {
        ThingTrees x = new ThingTrees();
        int room = x.thing(0, 9);
        int person = x.thing(4, 9);
        int gone = x.thing(1, 0);
        x.lose(gone);
        int[] wrong = {-1, -2, gone, 3, 19, 20, Integer.MAX_VALUE, Integer.MIN_VALUE};
        for (int w : wrong) {
            String n = "(" + w + ")";
            DUE.is("touches who " + n, x.touches(w, room), -1);
            DUE.is("touches what " + n, x.touches(person, w), -1);
            DUE.is("touches, no person " + n, x.touches(room, w), -1);
            DUE.is("sees who " + n, x.sees(w, room), -1);
            DUE.is("sees what " + n, x.sees(person, w), -1);
            DUE.is("sees, no person " + n, x.sees(room, w), -1);
            DUE.is("light " + n, x.light(w), -1);
            DUE.is("holder " + n, x.holder(w), -1);
            DUE.is("way " + n, x.way(w), -1);
            DUE.is("child " + n, x.child(w, 0), -1);
            DUE.is("child, no i " + n, x.child(w, -1), -1);
            DUE.is("count " + n, x.count(w), -1);
            DUE.is("walk " + n, x.walk(w, 0), -1);
            DUE.is("walk, no i " + n, x.walk(w, -1), -1);
            DUE.is("root " + n, x.root(w), -1);
            DUE.is("ring a " + n, x.ring(w, room), -1);
            DUE.is("ring b " + n, x.ring(room, w), -1);
            DUE.is("ring both " + n, x.ring(w, w), -1);
        }
        int[] kinds = {0, 1, 2, 3, 5, 6};
        for (int kind : kinds) {
            int t = x.thing(kind, 9);
            DUE.is("touches by kind " + kind, x.touches(t, person), -3);
            DUE.is("sees by kind " + kind, x.sees(t, person), -3);
            DUE.is("light of kind " + kind, x.light(t), -3);
        }
    }

    private static void routesAndApart() {
        ThingTrees x = new ThingTrees();
        int room = x.thing(0, 9);
        int hall = x.thing(0, 9);
        int person = x.thing(4, 9);
        int table = x.thing(3, 9);
        int cup = x.thing(2, 9);
        int tea = x.thing(1, 0);
        DUE.is("itself, NOWHERE", x.touches(person, person), 1);
        DUE.is("another one NOWHERE", x.touches(person, table), -6);
        x.move(table, room, 0);
        x.move(cup, table, 1);
        x.move(tea, cup, 0);
        DUE.is("from NOWHERE", x.touches(person, tea), -6);
        x.move(person, room, 0);
        DUE.is("the room", x.touches(person, room), 1);
        DUE.is("another room", x.touches(person, hall), -6);
        DUE.is("up and down", x.touches(person, tea), 1);
        x.move(person, hall, 0);
        DUE.is("from another room", x.touches(person, tea), -6);
        x.move(tea, person, 2);
        x.move(person, -1, 0);
        DUE.is("what one carries, NOWHERE", x.touches(person, tea), 1);
        x.move(person, cup, 0);
        x.move(table, -1, 0);
        DUE.is("the table that all is on, NOWHERE", x.touches(person, table), 1);
    }

    private static void touchIsBarred() {
        ThingTrees x = new ThingTrees();
        int room = x.thing(0, 9);
        int person = x.thing(4, 9);
        int other = x.thing(4, 9);
        int box = x.thing(2, 9);
        int coin = x.thing(1, 0);
        int knob = x.thing(1, 0);
        x.move(person, room, 0);
        x.move(other, room, 0);
        x.move(box, room, 0);
        x.move(coin, box, 0);
        x.part(knob, box);
        x.open(box, false);
        DUE.is("in a closed box", x.touches(person, coin), -10 - box);
        DUE.is("the closed box", x.touches(person, box), 1);
        DUE.is("a part of the closed box", x.touches(person, knob), 1);
        x.clears(box, true);
        DUE.is("a clear one bars touch", x.touches(person, coin), -10 - box);
        x.move(person, box, 0);
        DUE.is("out of the box", x.touches(person, room), -10 - box);
        DUE.is("the box, from in it", x.touches(person, box), -10 - box);
        DUE.is("its part, from in it", x.touches(person, knob), -10 - box);
        DUE.is("what is in it, too", x.touches(person, coin), -10 - box);
        x.open(box, true);
        DUE.is("open", x.touches(person, knob), 1);
        x.move(coin, other, 2);
        DUE.is("carried by another", x.touches(person, coin), -10 - other);
        x.move(coin, other, 3);
        DUE.is("worn by another", x.touches(person, coin), -10 - other);
        DUE.is("the other one", x.touches(person, other), 1);
        DUE.is("one's own", x.touches(other, coin), 1);
        x.part(coin, other);
        DUE.is("a part of another", x.touches(person, coin), 1);
        x.move(box, other, 2);
        DUE.is("out of a box that another carries", x.touches(person, room), -10 - other);
        DUE.is("to that other one", x.touches(person, other), -10 - other);
        DUE.is("the box itself", x.touches(person, box), 1);
        DUE.is("one who carries can touch in", x.touches(other, person), 1);
    }

    private static void theFirstBarTells() {
        ThingTrees x = new ThingTrees();
        int room = x.thing(0, 9);
        int person = x.thing(4, 9);
        int inner = x.thing(2, 9);
        int outer = x.thing(2, 9);
        int chest = x.thing(2, 9);
        int etui = x.thing(2, 9);
        int coin = x.thing(1, 0);
        int other = x.thing(4, 9);
        x.move(outer, room, 0);
        x.move(inner, outer, 0);
        x.move(person, inner, 0);
        x.move(other, room, 0);
        x.move(chest, other, 2);
        x.move(etui, chest, 0);
        x.move(coin, etui, 0);
        for (int box : new int[] {inner, outer, chest, etui}) {
            x.open(box, false);
        }
        DUE.is("on the way up", x.touches(person, coin), -10 - inner);
        DUE.is("sight", x.sees(person, coin), -10 - inner);
        x.open(inner, true);
        DUE.is("further up", x.touches(person, coin), -10 - outer);
        DUE.is("sight", x.sees(person, coin), -10 - outer);
        x.open(outer, true);
        DUE.is("the highest on the way down", x.touches(person, coin), -10 - other);
        DUE.is("sight: no person bars", x.sees(person, coin), -10 - chest);
        x.move(chest, room, 0);
        DUE.is("then the chest", x.touches(person, coin), -10 - chest);
        x.open(chest, true);
        DUE.is("then the etui", x.touches(person, coin), -10 - etui);
        DUE.is("sight", x.sees(person, coin), -10 - etui);
        x.open(etui, true);
        DUE.is("then none", x.touches(person, coin), 1);
        DUE.is("sight", x.sees(person, coin), 1);
        x.open(outer, false);
        DUE.is("outer bars the way up, not in", x.touches(person, inner), 1);
        DUE.is("itself", x.touches(person, outer), -10 - outer);
    }

    private static void scenes() {
        ThingTrees x = new ThingTrees();
        int room = x.thing(0, 9);
        int hall = x.thing(0, 9);
        int person = x.thing(4, 9);
        int box = x.thing(2, 9);
        int scene = x.thing(6, 0);
        x.spread(scene, room, true);
        DUE.is("from NOWHERE", x.touches(person, scene), -6);
        x.move(person, box, 0);
        DUE.is("from a box NOWHERE", x.touches(person, scene), -6);
        x.move(box, hall, 0);
        DUE.is("from another room", x.touches(person, scene), -6);
        x.move(box, room, 0);
        DUE.is("through the open box", x.touches(person, scene), 1);
        DUE.is("and seen", x.sees(person, scene), 1);
        x.open(box, false);
        DUE.is("through the closed one", x.touches(person, scene), -10 - box);
        DUE.is("nor seen", x.sees(person, scene), -10 - box);
        x.clears(box, true);
        DUE.is("not touched through the clear one", x.touches(person, scene), -10 - box);
        DUE.is("but seen", x.sees(person, scene), 1);
        x.spread(scene, room, false);
        DUE.is("in no room", x.sees(person, scene), -6);
        int cart = x.thing(5, 9);
        int rider = x.thing(4, 9);
        x.spread(scene, hall, true);
        x.move(cart, hall, 0);
        x.move(rider, cart, 0);
        DUE.is("from the cart", x.touches(rider, scene), 1);
        x.lose(hall);
        DUE.is("the room is gone", x.touches(rider, scene), -6);
    }

    private static void sightIsBarred() {
        ThingTrees x = new ThingTrees();
        int room = x.thing(0, 9);
        int person = x.thing(4, 9);
        int other = x.thing(4, 9);
        int box = x.thing(2, 9);
        int coin = x.thing(1, 0);
        int knob = x.thing(1, 0);
        int lamp = x.thing(1, 0);
        x.move(person, room, 0);
        x.move(other, room, 0);
        x.move(box, other, 2);
        x.move(coin, box, 0);
        x.part(knob, box);
        DUE.is("what another carries", x.sees(person, coin), 1);
        x.open(box, false);
        DUE.is("in a closed box", x.sees(person, coin), -10 - box);
        DUE.is("the closed box", x.sees(person, box), 1);
        DUE.is("its part", x.sees(person, knob), 1);
        x.clears(box, true);
        DUE.is("in a clear one", x.sees(person, coin), 1);
        x.clears(box, false);
        x.move(box, room, 0);
        x.move(person, box, 0);
        x.move(lamp, person, 2);
        x.glows(lamp, true);
        DUE.is("out of the box", x.sees(person, room), -10 - box);
        DUE.is("the box itself", x.sees(person, box), -10 - box);
        DUE.is("what one carries", x.sees(person, lamp), 1);
        DUE.is("apart", x.sees(person, x.thing(1, 0)), -6);
    }

    private static void sightWantsLight() {
        ThingTrees x = new ThingTrees();
        int room = x.thing(0, 9);
        int person = x.thing(4, 9);
        int box = x.thing(2, 9);
        int coin = x.thing(1, 0);
        x.move(person, room, 0);
        x.move(box, room, 0);
        x.move(coin, box, 0);
        DUE.is("lit", x.sees(person, coin), 1);
        x.lit(room, false);
        DUE.is("dark", x.sees(person, coin), -7);
        DUE.is("oneself, in the dark", x.sees(person, person), -7);
        x.open(box, false);
        DUE.is("-10 - b ahead of -7", x.sees(person, coin), -10 - box);
        x.move(box, -1, 0);
        DUE.is("-6 ahead of -7", x.sees(person, coin), -6);
        DUE.is("touch needs no light", x.touches(person, room), 1);
        x.glows(person, true);
        DUE.is("by one's own light", x.sees(person, room), 1);
    }

    private static void lightOfRooms() {
        ThingTrees x = new ThingTrees();
        int room = x.thing(0, 9);
        int dark = x.thing(0, 9);
        int person = x.thing(4, 9);
        int box = x.thing(2, 9);
        x.lit(dark, false);
        DUE.is("NOWHERE", x.light(person), 0);
        x.move(person, room, 0);
        DUE.is("in a lit room", x.light(person), 1);
        x.go(person, dark);
        DUE.is("in a dark room", x.light(person), 0);
        x.lit(dark, true);
        DUE.is("which is lit now", x.light(person), 1);
        x.move(box, room, 0);
        x.move(person, box, 0);
        DUE.is("in an open box", x.light(person), 1);
        x.open(box, false);
        DUE.is("in a closed box", x.light(person), 0);
        x.clears(box, true);
        DUE.is("in a clear box", x.light(person), 1);
        x.lose(room);
        DUE.is("the room is gone", x.light(person), 0);
    }

    private static void lightOfThingsThatGlow() {
        ThingTrees x = new ThingTrees();
        int room = x.thing(0, 9);
        int person = x.thing(4, 9);
        int box = x.thing(2, 9);
        int lamp = x.thing(1, 0);
        int other = x.thing(4, 9);
        int scene = x.thing(6, 0);
        x.lit(room, false);
        x.move(person, room, 0);
        x.glows(lamp, true);
        DUE.is("the lamp is apart", x.light(person), 0);
        x.move(other, room, 0);
        x.move(lamp, other, 2);
        DUE.is("in another's hand", x.light(person), 1);
        x.move(lamp, box, 0);
        x.move(box, room, 0);
        DUE.is("in an open box", x.light(person), 1);
        x.open(box, false);
        DUE.is("in a closed one", x.light(person), 0);
        x.clears(box, true);
        DUE.is("in a clear one", x.light(person), 1);
        x.clears(box, false);
        x.glows(box, true);
        DUE.is("the closed box glows", x.light(person), 1);
        x.move(person, box, 0);
        // The closed box is the holder in both steps of the route, so it bars even what is in it.
        DUE.is("in the closed box with the lamp", x.light(person), 0);
        x.glows(box, false);
        x.move(person, room, 0);
        x.glows(scene, true);
        DUE.is("a scene elsewhere", x.light(person), 0);
        x.spread(scene, room, true);
        DUE.is("a scene that glows", x.light(person), 1);
        x.lose(scene);
        DUE.is("gone", x.light(person), 0);
        x.move(person, -1, 0);
        x.glows(person, true);
        DUE.is("oneself, NOWHERE", x.light(person), 1);
    }

    private static void places() {
        ThingTrees x = new ThingTrees();
        int room = x.thing(0, 9);
        int person = x.thing(4, 9);
        int table = x.thing(3, 9);
        int hat = x.thing(1, 0);
        int bag = x.thing(2, 9);
        int cup = x.thing(1, 0);
        int leg = x.thing(1, 0);
        int scene = x.thing(6, 0);
        x.move(person, room, 0);
        x.move(table, room, 0);
        x.move(cup, table, 1);
        x.move(bag, person, 2);
        x.move(hat, person, 3);
        x.part(leg, table);
        DUE.place("IN", x, person, room, 0);
        DUE.place("ON", x, cup, table, 1);
        DUE.place("CARRIED", x, bag, person, 2);
        DUE.place("WORN", x, hat, person, 3);
        DUE.place("PART", x, leg, table, 4);
        DUE.place("a room", x, room, -8, -8);
        DUE.place("a scene", x, scene, -8, -8);
        DUE.children("of the room", x, room, person, table);
        DUE.children("of the person", x, person, bag, hat);
        DUE.children("of the table", x, table, cup, leg);
        DUE.children("of none", x, leg);
        for (int wrong : WRONG) {
            DUE.is("child(" + room + ", " + wrong + ")", x.child(room, wrong), -2);
        }
        x.move(table, -1, 0);
        x.move(table, room, 0);
        x.move(person, table, 1);
        x.move(person, room, 0);
        DUE.children("each comes last", x, room, table, person);
    }

    private static void walks() {
        ThingTrees x = new ThingTrees();
        for (int t = 0; t < 20; t++) {
            x.thing(2, 9);
        }
        for (int t = 1; t < 20; t++) {
            x.move(t, t - 1, 0);
        }
        int[] all = new int[20];
        for (int t = 0; t < 20; t++) {
            all[t] = t;
        }
        DUE.walk("a chain of all", x, 0, all);
        DUE.is("its root", x.root(19), 0);
        DUE.is("no ring of all", x.move(0, 19, 0), -4);
        for (int wrong : WRONG) {
            DUE.is("walk(0, " + wrong + ")", x.walk(0, wrong), -2);
        }
        x.move(2, 0, 0);
        x.move(9, 0, 0);
        x.move(5, 1, 0);
        DUE.walk("a tree", x, 0, 0, 1, 5, 6, 7, 8, 2, 3, 4, 9, 10, 11, 12, 13, 14, 15, 16, 17, 18, 19);
        DUE.walk("from within", x, 1, 1, 5, 6, 7, 8);
        DUE.walk("from within, which ends", x, 2, 2, 3, 4);
        DUE.walk("a leaf", x, 4, 4);
        DUE.walk("a leaf", x, 19, 19);
    }

    private static void rootsAndRings() {
        ThingTrees x = new ThingTrees();
        int room = x.thing(0, 9);
        int table = x.thing(3, 9);
        int leg = x.thing(1, 0);
        int scene = x.thing(6, 0);
        x.part(leg, table);
        DUE.is("NOWHERE", x.root(table), table);
        DUE.is("under that", x.root(leg), table);
        x.move(table, room, 0);
        DUE.is("in a room", x.root(leg), room);
        DUE.is("a room", x.root(room), room);
        DUE.is("a scene", x.root(scene), scene);
        DUE.is("itself", x.ring(leg, leg), 1);
        DUE.is("held", x.ring(room, table), 1);
        DUE.is("under", x.ring(room, leg), 1);
        DUE.is("above", x.ring(leg, room), 0);
        DUE.is("elsewhere", x.ring(scene, leg), 0);
        DUE.is("elsewhere", x.ring(room, scene), 0);
    }

    private static void rows() {
        ThingTrees x = new ThingTrees();
        int room = x.thing(0, 9);
        int person = x.thing(4, 9);
        int hat = x.thing(1, 0);
        DUE.is("none yet", x.row(0, 0), -2);
        x.move(person, room, 0);
        x.move(hat, room, 0);
        x.move(hat, room, 0);
        x.take(person, hat);
        x.wear(person, hat);
        x.move(person, -1, 0);
        DUE.row("latest", x, 0, person, room, -8, -8);
        DUE.row("worn", x, 1, hat, person, person, 3);
        DUE.row("taken", x, 2, hat, room, person, 2);
        DUE.row("moved", x, 3, hat, -8, room, 0);
        DUE.row("first", x, 4, person, -8, room, 0);
        DUE.is("no more", x.row(5, 0), -2);
        for (int wrong : WRONG) {
            DUE.is("row(" + wrong + ", 0)", x.row(wrong, 0), -2);
            DUE.is("row(0, " + wrong + ")", x.row(0, wrong), -2);
        }
        DUE.is("row(0, 4)", x.row(0, 4), -2);
        x.lose(hat);
        DUE.row("a thing that is gone since", x, 1, hat, person, person, 3);
        DUE.row("that makes no change", x, 0, person, room, -8, -8);
        x.lose(room);
        DUE.row("a holder that is gone since", x, 4, person, -8, room, 0);
    }

    private static void rowsThatAreKept() {
        ThingTrees x = new ThingTrees();
        int room = x.thing(0, 9);
        int hall = x.thing(0, 9);
        int coin = x.thing(1, 0);
        for (int n = 1; n <= 100; n++) {
            x.move(coin, n % 2 == 0 ? room : hall, 0);
            DUE.is("told(1)", x.told(1), n);
            int kept = Math.min(n, 30);
            DUE.is("the oldest", x.row(kept - 1, 2), (n - kept + 1) % 2 == 0 ? room : hall);
            DUE.is("none older", x.row(kept, 2), -2);
        }
        DUE.row("latest of 100", x, 0, coin, hall, room, 0);
        DUE.row("one earlier", x, 1, coin, room, hall, 0);
        DUE.row("the 30th", x, 29, coin, room, hall, 0);
        x.clear();
        DUE.is("cleared", x.row(0, 0), -2);
        DUE.is("cleared", x.told(1), 0);
    }

    private static void tallies() {
        ThingTrees x = new ThingTrees();
        for (int kind = 0; kind <= 6; kind++) {
            x.thing(kind, 9);
        }
        DUE.is("things", x.told(0), 7);
        DUE.is("changes", x.told(1), 0);
        DUE.is("NOWHERE, no room and no scene", x.told(2), 5);
        x.move(4, 0, 0);
        x.move(1, 4, 2);
        x.part(2, 3);
        DUE.is("NOWHERE", x.told(2), 2);
        DUE.is("changes", x.told(1), 3);
        x.lose(3);
        DUE.is("things", x.told(0), 5);
        DUE.is("NOWHERE", x.told(2), 1);
        x.lose(0);
        DUE.is("NOWHERE", x.told(2), 2);
        DUE.is("changes", x.told(1), 4);
        DUE.is("what is refused is no change", x.move(6, 4, 0), -3);
        DUE.is("changes", x.told(1), 4);
        for (int wrong : new int[] {-1, 3, Integer.MAX_VALUE, Integer.MIN_VALUE}) {
            DUE.is("told(" + wrong + ")", x.told(wrong), -2);
        }
    }

    /** 512 calls: what later ones answer is free. */
    private static void theLastCallThatIsPromised() {
        ThingTrees x = new ThingTrees();
        int room = x.thing(0, 9);
        int hall = x.thing(0, 9);
        int coin = x.thing(1, 0);
        for (int n = 1; n <= 507; n++) {
            x.move(coin, n % 2 == 0 ? room : hall, 0);
        }
        DUE.is("the 511th call: the 30th latest change", x.row(29, 2), room);
        DUE.is("the 512th call: all changes", x.told(1), 507);
    }
}
