/** Promises 11 to 18: what persons do, and losing things. */
public final class PromisesElevenToEighteenTest {
    private static final Due DUE = new Due();
    private static final int[] WRONG = {-1, -2, 20, Integer.MAX_VALUE, Integer.MIN_VALUE};

    public static void main(String[] args) {
        wrongThings();
        take();
        takeIsRefused();
        takeOrderOfAnswers();
        drop();
        dropIsRefused();
        put();
        putIsRefused();
        wear();
        enter();
        enterIsRefused();
        leave();
        leaveIsRefused();
        goOnFoot();
        goByCart();
        loseOne();
        loseWithParts();
        loseInTheOrderOfTheWalk();
        loseAllThatCanBeMade();
        DUE.end();
    }

    /** 0 ROOM; in it 1 PERSON, 2 BOX, 3 TABLE, 4 CART, 5 PLAIN; 6 SCENE, 7 ROOM; MOST 9. */
    private static ThingTrees furnished() {
        ThingTrees x = new ThingTrees();
        for (int kind : new int[] {0, 4, 2, 3, 5, 1, 6, 0}) {
            x.thing(kind, 9);
        }
        for (int t = 1; t <= 5; t++) {
            x.move(t, 0, 0);
        }
        return x;
    }

    private static void wrongThings() {
        ThingTrees x = furnished();
        for (int w : WRONG) {
            String n = "(" + w + ")";
            DUE.is("take who " + n, x.take(w, 5), -1);
            DUE.is("take what " + n, x.take(1, w), -1);
            DUE.is("take, no person " + n, x.take(5, w), -1);
            DUE.is("drop who " + n, x.drop(w, 5), -1);
            DUE.is("drop what " + n, x.drop(1, w), -1);
            DUE.is("put who " + n, x.put(w, 5, 2), -1);
            DUE.is("put what " + n, x.put(1, w, 2), -1);
            DUE.is("put to " + n, x.put(1, 5, w), -1);
            DUE.is("wear who " + n, x.wear(w, 5), -1);
            DUE.is("wear what " + n, x.wear(1, w), -1);
            DUE.is("enter who " + n, x.enter(w, 2), -1);
            DUE.is("enter what " + n, x.enter(1, w), -1);
            DUE.is("leave " + n, x.leave(w), -1);
            DUE.is("go who " + n, x.go(w, 7), -1);
            DUE.is("go where " + n, x.go(1, w), -1);
            DUE.is("lose " + n, x.lose(w), -1);
        }
        for (int no : new int[] {0, 2, 3, 4, 5, 6, 7}) {
            String n = " by " + no;
            DUE.is("take" + n, x.take(no, 5), -3);
            DUE.is("drop" + n, x.drop(no, 5), -3);
            DUE.is("put" + n, x.put(no, 5, 2), -3);
            DUE.is("wear" + n, x.wear(no, 5), -3);
            DUE.is("enter" + n, x.enter(no, 2), -3);
            DUE.is("leave" + n, x.leave(no), -3);
            DUE.is("go" + n, x.go(no, 7), -3);
        }
        DUE.is("nothing has changed", x.told(1), 5);
    }

    private static void take() {
        ThingTrees x = furnished();
        DUE.is("take(1, 5)", x.take(1, 5), 1);
        DUE.place("carried", x, 5, 1, 2);
        DUE.row("a change", x, 0, 5, 0, 1, 2);
        DUE.is("carried already", x.take(1, 5), 0);
        DUE.is("worn", x.wear(1, 5), 1);
        DUE.is("what was worn", x.take(1, 5), 1);
        DUE.row("a change of way", x, 0, 5, 1, 1, 2);
        DUE.is("a box", x.take(1, 2), 1);
        DUE.is("a table", x.take(1, 3), 1);
        DUE.children("all of them", x, 1, 5, 2, 3);
        x.move(5, 2, 0);
        DUE.is("out of a box that the person carries", x.take(1, 5), 1);
        DUE.children("it comes last", x, 1, 2, 3, 5);
    }

    private static void takeIsRefused() {
        ThingTrees x = furnished();
        int other = x.thing(4, 9);
        x.move(other, 0, 0);
        for (int no : new int[] {0, 1, 4, 6, 7, other}) {
            DUE.is("take(1, " + no + ")", x.take(1, no), -3);
        }
        int knob = x.thing(1, 0);
        x.part(knob, 2);
        DUE.is("a part", x.take(1, knob), -3);
        int far = x.thing(1, 0);
        DUE.is("NOWHERE", x.take(1, far), -6);
        x.move(far, 7, 0);
        DUE.is("in another room", x.take(1, far), -6);
        x.move(far, other, 2);
        DUE.is("carried by another", x.take(1, far), -10 - other);
        x.move(far, other, 3);
        DUE.is("worn by another", x.take(1, far), -10 - other);
        x.move(far, 2, 0);
        x.open(2, false);
        DUE.is("in a closed box", x.take(1, far), -12);
        x.clears(2, true);
        DUE.is("clear or not", x.take(1, far), -12);
        x.open(2, true);
        DUE.is("in an open one", x.take(1, far), 1);
        x.move(1, 2, 0);
        DUE.is("the box that one is in", x.take(1, 2), -4);
        x.lose(far);
        DUE.is("gone", x.take(1, far), -1);
    }

    private static void takeOrderOfAnswers() {
        ThingTrees x = new ThingTrees();
        int room = x.thing(0, 9);
        int person = x.thing(4, 1);
        int box = x.thing(2, 9);
        int coin = x.thing(1, 0);
        int shell = x.thing(1, 0);
        x.move(box, room, 0);
        x.move(person, box, 0);
        x.move(coin, person, 2);
        x.open(box, false);
        DUE.is("0 ahead of -5", x.take(person, coin), 0);
        DUE.is("-4 ahead of -10 - b and -5", x.take(person, box), -4);
        DUE.is("-6 ahead of -5", x.take(person, shell), -6);
        x.move(shell, room, 0);
        DUE.is("-10 - b ahead of -5", x.take(person, shell), -10 - box);
        x.open(box, true);
        DUE.is("-5", x.take(person, shell), -5);
        x.move(shell, person, 3);
        DUE.is("-5 for what is worn, too", x.take(person, shell), -5);
        DUE.place("it is still worn", x, shell, person, 3);
        DUE.is("-3 ahead of all", x.take(person, room), -3);
    }

    private static void drop() {
        ThingTrees x = furnished();
        x.take(1, 5);
        DUE.is("drop(1, 5)", x.drop(1, 5), 1);
        DUE.row("in the room", x, 0, 5, 1, 0, 0);
        DUE.is("once", x.drop(1, 5), -3);
        x.move(5, 1, 3);
        int before = x.told(1);
        DUE.is("what is worn", x.drop(1, 5), 1);
        DUE.is("two changes", x.told(1), before + 2);
        DUE.row("taken off", x, 1, 5, 1, 1, 2);
        DUE.row("dropped", x, 0, 5, 1, 0, 0);
        x.move(1, 3, 1);
        x.take(1, 5);
        DUE.is("on the table", x.drop(1, 5), 1);
        DUE.place("by the person's way", x, 5, 3, 1);
        x.move(1, 4, 0);
        x.take(1, 5);
        DUE.is("in the cart", x.drop(1, 5), 1);
        DUE.place("the cart's", x, 5, 4, 0);
        x.move(1, 2, 0);
        x.move(5, 1, 2);
        x.open(2, false);
        DUE.is("in the closed box that the person is in", x.drop(1, 5), 1);
        DUE.place("the box's", x, 5, 2, 0);
    }

    private static void dropIsRefused() {
        ThingTrees x = new ThingTrees();
        int room = x.thing(0, 1);
        int person = x.thing(4, 1);
        int hat = x.thing(1, 0);
        int coin = x.thing(1, 0);
        int nose = x.thing(1, 0);
        x.part(nose, person);
        x.move(coin, person, 2);
        DUE.is("who is NOWHERE", x.drop(person, coin), -3);
        x.move(person, room, 0);
        DUE.is("a part", x.drop(person, nose), -3);
        DUE.is("neither carried nor worn", x.drop(person, hat), -3);
        DUE.is("the person", x.drop(person, person), -3);
        DUE.is("the room is full", x.drop(person, coin), -5);
        DUE.place("it is still carried", x, coin, person, 2);
        int hall = x.thing(0, 9);
        x.move(person, hall, 0);
        x.move(hat, person, 3);
        int before = x.told(1);
        DUE.is("worn, and the person is full", x.drop(person, hat), -5);
        DUE.place("it is still worn", x, hat, person, 3);
        DUE.is("carried, though the person is full", x.drop(person, coin), 1);
        x.move(coin, -1, 0);
        x.move(person, room, 0);
        DUE.is("worn, and the room is full", x.drop(person, hat), -5);
        DUE.place("it is not taken off either", x, hat, person, 3);
        DUE.is("changes", x.told(1), before + 3);
        int other = x.thing(4, 9);
        x.move(other, hall, 0);
        DUE.is("held by another", x.drop(other, hat), -3);
        x.lose(hat);
        DUE.is("gone", x.drop(person, hat), -1);
    }

    private static void put() {
        ThingTrees x = furnished();
        int[][] places = {{0, 0}, {2, 0}, {3, 1}, {4, 0}};
        for (int[] place : places) {
            x.move(5, 1, 2);
            DUE.is("put(1, 5, " + place[0] + ")", x.put(1, 5, place[0]), 1);
            DUE.row("to its place", x, 0, 5, 1, place[0], place[1]);
        }
        x.move(5, 1, 2);
        x.move(2, 1, 2);
        DUE.is("into what is carried, too", x.put(1, 5, 2), 1);
        DUE.place("in it", x, 5, 2, 0);
        int bag = x.thing(2, 1);
        x.move(bag, 1, 2);
        DUE.is("a box into a box", x.put(1, bag, 2), 1);
        x.move(1, 4, 0);
        x.move(2, 1, 2);
        DUE.is("from the cart to the room", x.put(1, 2, 0), 1);
        DUE.walk("all of it", x, 0, 0, 3, 4, 1, 2, 5, bag);
    }

    private static void putIsRefused() {
        ThingTrees x = new ThingTrees();
        int room = x.thing(0, 9);
        int person = x.thing(4, 9);
        int box = x.thing(2, 1);
        int bag = x.thing(2, 0);
        int coin = x.thing(1, 0);
        int scene = x.thing(6, 0);
        int other = x.thing(4, 9);
        x.move(person, room, 0);
        x.move(other, room, 0);
        x.spread(scene, room, true);
        x.move(box, person, 2);
        DUE.is("not carried", x.put(person, coin, room), -3);
        x.move(coin, person, 3);
        DUE.is("worn", x.put(person, coin, room), -3);
        x.move(coin, person, 2);
        DUE.is("to a person", x.put(person, coin, other), -3);
        DUE.is("to a scene", x.put(person, coin, scene), -3);
        DUE.is("to a plain thing", x.put(person, box, coin), -3);
        DUE.is("carried by another", x.put(other, coin, room), -3);
        DUE.is("to itself", x.put(person, box, box), -4);
        x.move(bag, box, 0);
        DUE.is("to what is under it", x.put(person, box, bag), -4);
        x.open(box, false);
        DUE.is("-4 ahead of -10 - b", x.put(person, box, bag), -4);
        DUE.is("to what is in a closed box", x.put(person, coin, bag), -10 - box);
        DUE.is("to a closed box, which is full", x.put(person, coin, box), -10 - box);
        x.open(box, true);
        DUE.is("to an open box, which is full", x.put(person, coin, box), -5);
        x.open(bag, false);
        DUE.is("to a closed one in an open one", x.put(person, coin, bag), -10 - bag);
        x.open(bag, true);
        DUE.is("MOST 0 is always full", x.put(person, coin, bag), -5);
        x.move(bag, -1, 0);
        DUE.is("-6 ahead of -5", x.put(person, coin, bag), -6);
        x.open(bag, false);
        DUE.is("-6 ahead of -10 - to", x.put(person, coin, bag), -6);
        x.move(bag, other, 2);
        DUE.is("to what another carries", x.put(person, coin, bag), -10 - other);
        int chest = x.thing(2, 9);
        x.move(chest, room, 0);
        x.move(person, chest, 0);
        x.open(chest, false);
        DUE.is("out of a closed box", x.put(person, coin, room), -10 - chest);
        DUE.is("into it from inside", x.put(person, coin, chest), -10 - chest);
        DUE.place("it is still carried", x, coin, person, 2);
    }

    private static void wear() {
        ThingTrees x = furnished();
        int nose = x.thing(1, 0);
        x.part(nose, 1);
        DUE.is("not held", x.wear(1, 5), -3);
        DUE.is("a part", x.wear(1, nose), -3);
        DUE.is("itself", x.wear(1, 1), -3);
        x.take(1, 5);
        DUE.is("wear(1, 5)", x.wear(1, 5), 1);
        DUE.row("a change", x, 0, 5, 1, 1, 3);
        DUE.is("worn already", x.wear(1, 5), 0);
        x.take(1, 2);
        DUE.is("a box", x.wear(1, 2), -3);
        x.take(1, 3);
        DUE.is("a table", x.wear(1, 3), -3);
        int other = x.thing(4, 9);
        DUE.is("worn by another", x.wear(other, 5), -3);
        int cap = x.thing(1, 0);
        x.move(cap, 1, 2);
        x.take(1, 5);
        DUE.children("in their order", x, 1, nose, 2, 3, cap, 5);
        DUE.is("wear anew", x.wear(1, cap), 1);
        DUE.children("comes anew", x, 1, nose, 2, 3, 5, cap);
        ThingTrees y = new ThingTrees();
        int person = y.thing(4, 1);
        int hat = y.thing(1, 0);
        y.move(hat, person, 2);
        DUE.is("who is full and NOWHERE", y.wear(person, hat), 1);
        y.lose(hat);
        DUE.is("gone", y.wear(person, hat), -1);
    }

    private static void enter() {
        ThingTrees x = furnished();
        DUE.is("a box", x.enter(1, 2), 1);
        DUE.row("a change", x, 0, 1, 0, 2, 0);
        DUE.is("in it already", x.enter(1, 2), 0);
        x.open(2, false);
        DUE.is("also when it is closed", x.enter(1, 2), 0);
        x.open(2, true);
        DUE.is("from the box to the cart", x.enter(1, 4), 1);
        DUE.place("in the cart", x, 1, 4, 0);
        int nest = x.thing(2, 1);
        x.part(nest, 4);
        DUE.is("a part of the cart", x.enter(1, nest), 1);
        DUE.is("and back", x.enter(1, 4), 1);
    }

    private static void enterIsRefused() {
        ThingTrees x = furnished();
        for (int no : new int[] {0, 1, 3, 5, 6, 7}) {
            DUE.is("enter(1, " + no + ")", x.enter(1, no), -3);
        }
        int bag = x.thing(2, 0);
        DUE.is("-6 ahead of -5", x.enter(1, bag), -6);
        x.move(bag, 2, 0);
        DUE.is("full", x.enter(1, bag), -5);
        x.open(bag, false);
        DUE.is("closed, ahead of full", x.enter(1, bag), -10 - bag);
        x.open(2, false);
        DUE.is("in a closed one, ahead of it", x.enter(1, bag), -12);
        x.take(1, 2);
        DUE.is("carried", x.enter(1, 2), -4);
        DUE.is("in what is carried", x.enter(1, bag), -4);
        int other = x.thing(4, 9);
        x.move(other, 0, 0);
        DUE.is("what another carries", x.enter(other, 2), -11);
        int seat = x.thing(5, 9);
        x.part(seat, 1);
        DUE.is("a part of the person", x.enter(1, seat), -4);
        DUE.is("a part of another, which does not bar", x.enter(other, seat), 1);
        x.lose(seat);
        DUE.is("gone", x.enter(1, seat), -1);
        DUE.place("out of what is gone", x, other, -8, -8);
    }

    private static void leave() {
        ThingTrees x = furnished();
        x.move(1, 2, 0);
        DUE.is("a box", x.leave(1), 1);
        DUE.row("to the room", x, 0, 1, 2, 0, 0);
        x.move(4, 3, 1);
        x.move(1, 4, 0);
        DUE.is("a cart on a table", x.leave(1), 1);
        DUE.place("by the way of the cart", x, 1, 3, 1);
        x.move(1, 2, 0);
        x.move(2, 4, 0);
        DUE.is("a box in a cart", x.leave(1), 1);
        DUE.place("in the cart", x, 1, 4, 0);
    }

    private static void leaveIsRefused() {
        ThingTrees x = furnished();
        DUE.is("a room", x.leave(1), -3);
        x.move(1, 3, 1);
        DUE.is("a table", x.leave(1), -3);
        x.move(1, -1, 0);
        DUE.is("NOWHERE", x.leave(1), -3);
        x.move(1, 2, 0);
        x.open(2, false);
        DUE.is("a closed box", x.leave(1), -12);
        x.clears(2, true);
        DUE.is("clear or not", x.leave(1), -12);
        x.move(2, -1, 0);
        DUE.is("a box that is NOWHERE, ahead of closed", x.leave(1), -3);
        int small = x.thing(3, 1);
        x.move(2, small, 1);
        DUE.is("closed, ahead of full", x.leave(1), -12);
        x.open(2, true);
        DUE.is("full", x.leave(1), -5);
        int other = x.thing(4, 9);
        x.move(2, other, 2);
        DUE.is("a box that is carried", x.leave(1), -3);
        x.part(2, other);
        x.open(2, false);
        DUE.is("a box that is a part", x.leave(1), -3);
        DUE.place("still in it", x, 1, 2, 0);
        x.lose(1);
        DUE.is("gone", x.leave(1), -1);
    }

    private static void goOnFoot() {
        ThingTrees x = furnished();
        DUE.is("go(1, 7)", x.go(1, 7), 1);
        DUE.row("a change", x, 0, 1, 0, 7, 0);
        DUE.is("there already", x.go(1, 7), 0);
        for (int no = 1; no <= 6; no++) {
            DUE.is("go(1, " + no + ")", x.go(1, no), -3);
        }
        int cell = x.thing(0, 1);
        DUE.is("to the cell", x.go(1, cell), 1);
        DUE.is("0 ahead of -5", x.go(1, cell), 0);
        int other = x.thing(4, 9);
        DUE.is("from NOWHERE", x.go(other, 7), -3);
        x.move(other, 0, 0);
        DUE.is("the cell is full", x.go(other, cell), -5);
        x.move(other, 3, 1);
        DUE.is("from a table, ahead of -5", x.go(other, cell), -3);
        x.move(other, 2, 0);
        DUE.is("from a box", x.go(other, 7), -3);
        DUE.is("also to the room that the box is in", x.go(other, 0), -3);
        x.lose(7);
        DUE.is("a room that is gone", x.go(1, 7), -1);
    }

    private static void goByCart() {
        ThingTrees x = furnished();
        x.move(1, 4, 0);
        DUE.is("the cart goes", x.go(1, 7), 1);
        DUE.row("its change alone", x, 0, 4, 0, 7, 0);
        DUE.place("with the person", x, 1, 4, 0);
        DUE.is("there already", x.go(1, 7), 0);
        int cell = x.thing(0, 0);
        DUE.is("full", x.go(1, cell), -5);
        x.move(4, 3, 1);
        DUE.is("a cart on a table", x.go(1, 7), -3);
        x.move(4, -1, 0);
        DUE.is("a cart that is NOWHERE", x.go(1, 7), -3);
        int big = x.thing(5, 9);
        x.move(big, 0, 0);
        x.move(4, big, 0);
        DUE.is("a cart in a cart", x.go(1, 7), -3);
        x.part(4, big);
        DUE.is("a cart that is a part", x.go(1, 7), -3);
    }

    private static void loseOne() {
        ThingTrees x = furnished();
        x.move(5, 2, 0);
        int before = x.told(1);
        DUE.is("lose(2)", x.lose(2), 1);
        DUE.is("none for ever", x.lose(2), -1);
        DUE.is("holder", x.holder(2), -1);
        DUE.children("the room", x, 0, 1, 3, 4);
        DUE.place("what it held", x, 5, -8, -8);
        DUE.is("one change", x.told(1), before + 1);
        DUE.row("of what it held", x, 0, 5, 2, -8, -8);
        DUE.is("the room", x.lose(0), 1);
        DUE.is("three changes", x.told(1), before + 4);
        DUE.row("in their order", x, 2, 1, 0, -8, -8);
        DUE.row("in their order", x, 1, 3, 0, -8, -8);
        DUE.row("in their order", x, 0, 4, 0, -8, -8);
        DUE.is("a scene", x.lose(6), 1);
        DUE.is("things", x.told(0), 5);
        DUE.is("a new one has a new number", x.thing(0, 1), 8);
    }

    private static void loseWithParts() {
        ThingTrees x = new ThingTrees();
        int person = x.thing(4, 9);
        int arm = x.thing(1, 0);
        int hand = x.thing(1, 0);
        int hat = x.thing(1, 0);
        int plume = x.thing(1, 0);
        int bag = x.thing(2, 9);
        int coin = x.thing(1, 0);
        x.part(hand, arm);
        x.part(arm, person);
        x.part(plume, hat);
        x.move(hat, person, 3);
        x.move(bag, person, 2);
        x.move(coin, bag, 0);
        int before = x.told(1);
        DUE.is("with its parts, and theirs", x.lose(person), 3);
        DUE.is("the hand", x.root(hand), -1);
        DUE.is("two changes", x.told(1), before + 2);
        DUE.row("the hat", x, 1, hat, person, -8, -8);
        DUE.row("the bag", x, 0, bag, person, -8, -8);
        DUE.walk("what it held keeps its parts", x, hat, hat, plume);
        DUE.walk("and what is in it", x, bag, bag, coin);
        DUE.is("things", x.told(0), 4);
        DUE.is("NOWHERE", x.told(2), 2);
        DUE.is("a part alone", x.lose(plume), 1);
        DUE.walk("its whole stays", x, hat, hat);
        DUE.is("without a change", x.told(1), before + 2);
    }

    private static void loseInTheOrderOfTheWalk() {
        ThingTrees x = new ThingTrees();
        int desk = x.thing(3, 9);
        int drawer = x.thing(2, 9);
        int tray = x.thing(2, 9);
        int lamp = x.thing(1, 0);
        int pen = x.thing(1, 0);
        int clip = x.thing(1, 0);
        int cup = x.thing(2, 9);
        int tea = x.thing(1, 0);
        int room = x.thing(0, 9);
        x.move(desk, room, 0);
        x.move(cup, desk, 1);
        x.move(tea, cup, 0);
        x.part(drawer, desk);
        x.move(pen, drawer, 0);
        x.part(tray, drawer);
        x.move(clip, tray, 0);
        x.move(lamp, desk, 1);
        DUE.walk("before", x, room, room, desk, cup, tea, drawer, pen, tray, clip, lamp);
        int before = x.told(1);
        DUE.is("desk, drawer, tray", x.lose(desk), 3);
        DUE.is("changes", x.told(1), before + 4);
        DUE.row("first", x, 3, cup, desk, -8, -8);
        DUE.row("second", x, 2, pen, drawer, -8, -8);
        DUE.row("third", x, 1, clip, tray, -8, -8);
        DUE.row("fourth", x, 0, lamp, desk, -8, -8);
        DUE.place("the tea stays in the cup", x, tea, cup, 0);
        DUE.walk("after", x, room, room);
        DUE.is("NOWHERE", x.told(2), 4);
    }

    private static void loseAllThatCanBeMade() {
        ThingTrees x = new ThingTrees();
        for (int t = 0; t < 20; t++) {
            x.thing(1, 0);
            x.part(t, t - 1);
        }
        DUE.is("a chain of 20 parts", x.lose(0), 20);
        DUE.is("things", x.told(0), 0);
        DUE.is("none is NOWHERE", x.told(2), 0);
        DUE.is("19 came, and going is no change", x.told(1), 19);
        x.clear();
        for (int t = 0; t < 20; t++) {
            x.thing(2, 1);
            x.move(t, Math.max(0, t - 1), 0);
        }
        DUE.is("a chain of 20 boxes", x.lose(0), 1);
        DUE.row("the next one", x, 0, 1, 0, -8, -8);
        DUE.is("with all that is under it", x.count(1), 18);
    }
}
