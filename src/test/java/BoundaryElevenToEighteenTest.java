/** The sentences of promises 11 to 18 that name a boundary case, a written run for each. */
public final class BoundaryElevenToEighteenTest {
    private static final Script RUN = new Script();
    private static final String[] NO_THINGS = {"-1", "-2", "MIN", "MAX", "20", "15"};

    /** A room with a person and one thing of each kind in it, and what is elsewhere. */
    private static final String HOME = """
        room: thing ROOM 9
        hall: thing ROOM 9
        p: thing PERSON 9
        other: thing PERSON 9
        box: thing BOX 9
        table: thing TABLE 9
        cart: thing CART 9
        scene: thing SCENE 9
        coin: thing PLAIN 0
        far: thing PLAIN 0
        move p room IN
        move other room IN
        move box room IN
        move table room IN
        move cart room IN
        move coin room IN
        move far hall IN
        spread scene room on
        """;
    private static final String[] NO_PERSONS = {
        "room", "box", "table", "cart", "scene", "coin",
    };

    public static void main(String[] args) {
        take();
        takeIsRefused();
        takeTwoRefusals();
        drop();
        dropIsRefused();
        dropFull();
        put();
        putIsRefused();
        putIsBarred();
        putTwoRefusals();
        wear();
        wearIsRefused();
        enter();
        enterIsRefused();
        enterTwoRefusals();
        leave();
        leaveIsRefused();
        leaveTwoRefusals();
        go();
        goIsRefused();
        goTwoRefusals();
        loseOne();
        loseWithParts();
        loseInTheOrderOfTheWalk();
        RUN.demand("take", 1, 0, -1, -3, -4, -5, -6, -10);
        RUN.demand("drop", 1, -1, -3, -5);
        RUN.demand("put", 1, -1, -3, -4, -5, -6, -10);
        RUN.demand("wear", 1, 0, -1, -3);
        RUN.demand("enter", 1, 0, -1, -3, -4, -5, -6, -10);
        RUN.demand("leave", 1, -1, -3, -5, -10);
        RUN.demand("go", 1, 0, -1, -3, -5);
        RUN.demand("lose", 1, -1);
        RUN.end();
    }

    private static void eachWrongThing(String sentence, String call) {
        for (String wrong : NO_THINGS) {
            RUN.play(sentence, HOME + call.replace("?", wrong) + " = -1\n");
        }
    }

    private static void eachThatIsNoPerson(String sentence, String before, String call) {
        for (String who : NO_PERSONS) {
            RUN.play(sentence, HOME + before + call.replace("?", who) + " = -3\n");
        }
    }

    private static void take() {
        RUN.play("Promise 11: which is CARRIED then", HOME + """
            take p coin
            place coin = p CARRIED
            change 0 = coin room p CARRIED
            take p box
            take p table
            holds p = coin box table
            """);
        RUN.play("Promise 11: also one that the person wore", HOME + """
            move coin p WORN
            take p coin
            change 0 = coin p p CARRIED
            """);
        RUN.play("Promise 11: 0 when the person carries it already", HOME + """
            take p coin
            take p coin = 0
            told 1 = 8
            """);
        RUN.play("Promise 11: what another person sits in may be taken", HOME + """
            move other box IN
            take p box
            place other = box IN
            """);
        RUN.play("Promise 11: from NOWHERE a person takes what it holds alone", """
            p: thing PERSON 9
            bag: thing BOX 9
            coin: thing PLAIN 0
            move bag p CARRIED
            move coin bag IN
            take p coin
            """);
    }

    private static void takeIsRefused() {
        eachWrongThing("Promise 11: a who that is none", "take ? coin");
        eachWrongThing("Promise 11: a thing that is none", "take p ?");
        eachThatIsNoPerson("Promise 11: -3: who is no PERSON", "", "take ? coin");
        RUN.play("Promise 11: -3: a ROOM, a SCENE, a PERSON, a CART", HOME + """
            take p room = -3
            take p hall = -3
            take p scene = -3
            take p other = -3
            take p p = -3
            take p cart = -3
            """);
        RUN.play("Promise 11: -3: a PART", HOME + """
            knob: thing PLAIN 0
            part knob box
            take p knob = -3
            nose: thing PLAIN 0
            part nose p
            take p nose = -3
            """);
        RUN.play("Promise 11: -4: who is under it", HOME + """
            move p box IN
            take p box = -4
            move box table ON
            take p table = -4
            take p box = -4
            """);
        RUN.play("Promise 11: -6", HOME + """
            take p far = -6
            move far -1 IN
            take p far = -6
            move p -1 IN
            take p coin = -6
            """);
        RUN.play("Promise 11: -10 - b: a closed BOX", HOME + """
            move coin box IN
            open box off
            take p coin = -10-box
            clears box on
            take p coin = -10-box
            open box on
            take p coin
            """);
        RUN.play("Promise 11: -10 - b: another person", HOME + """
            move coin other CARRIED
            take p coin = -10-other
            move coin other WORN
            take p coin = -10-other
            """);
        RUN.play("Promise 11: -5: who is FULL", """
            room: thing ROOM 9
            p: thing PERSON 1
            a: thing PLAIN 0
            b: thing PLAIN 0
            move p room IN
            move a room IN
            move b room IN
            take p a
            take p b = -5
            wear p a
            take p b
            take p a = -5
            place a = p WORN
            """);
        RUN.play("Promise 11: -5: MOST 0", """
            p: thing PERSON 0
            hat: thing PLAIN 0
            move hat p WORN
            take p hat = -5
            place hat = p WORN
            """);
    }

    private static void takeTwoRefusals() {
        String before = """
            room: thing ROOM 9
            hall: thing ROOM 9
            box: thing BOX 9
            p: thing PERSON 1
            coin: thing PLAIN 0
            cart: thing CART 9
            bag: thing BOX 0
            far: thing PLAIN 0
            lid: thing PLAIN 0
            other: thing PERSON 9
            scene: thing SCENE 0
            move box room IN
            move p box IN
            move coin p CARRIED
            move cart room IN
            move bag room IN
            part lid bag
            move far hall IN
            move other room IN
            """;
        RUN.play("Promise 11: -3 ahead of -4", before + """
            take p room = -3
            take coin box = -3
            move p cart IN
            take p cart = -3
            """);
        RUN.play("Promise 11: -3 ahead of -6", before + """
            take p hall = -3
            take p scene = -3
            take bag far = -3
            """);
        RUN.play("Promise 11: -3 ahead of -10 - b", before + """
            open box off
            take p cart = -3
            take p other = -3
            take p lid = -3
            """);
        RUN.play("Promise 11: -3 ahead of -5", before + """
            take p cart = -3
            take p other = -3
            take p lid = -3
            """);
        RUN.play("Promise 11: 0 ahead of -5", before + """
            take p coin = 0
            """);
        RUN.play("Promise 11: -4 ahead of -10 - b and of -5", before + """
            take p box = -4
            open box off
            take p box = -4
            drop p coin
            take p box = -4
            """);
        RUN.play("Promise 11: -6 ahead of -5", before + """
            take p far = -6
            """);
        RUN.play("Promise 11: -10 - b ahead of -5", before + """
            take p bag = -5
            open box off
            take p bag = -10-box
            """);
    }

    private static void drop() {
        RUN.play("Promise 12: CARRIED: to the person's holder, by the person's way", HOME + """
            take p coin
            drop p coin
            change 0 = coin p room IN
            told 1 = 9
            move p table ON
            take p coin
            drop p coin
            place coin = table ON
            move p cart IN
            take p coin
            drop p coin
            place coin = cart IN
            """);
        RUN.play("Promise 12: what is WORN is taken off first (a change), and then dropped", HOME + """
            move coin p WORN
            told 1 = 8
            drop p coin
            told 1 = 10
            change 1 = coin p p CARRIED
            change 0 = coin p room IN
            """);
        RUN.play("Promise 12: a closed BOX does not hinder a person in it", HOME + """
            take p coin
            move p box IN
            open box off
            drop p coin
            place coin = box IN
            """);
        RUN.play("Promise 12: a box with what it holds", HOME + """
            move coin box IN
            take p box
            drop p box
            walks room = room p other table cart box coin
            """);
    }

    private static void dropIsRefused() {
        eachWrongThing("Promise 12: a who that is none", "drop ? coin");
        eachWrongThing("Promise 12: a thing that is none", "drop p ?");
        eachThatIsNoPerson("Promise 12: -3: who is no PERSON", "", "drop ? coin");
        RUN.play("Promise 12: -3: who is no PERSON, and holds it", HOME + """
            move coin box IN
            drop box coin = -3
            move coin table ON
            drop table coin = -3
            """);
        RUN.play("Promise 12: -3: does not carry or wear it", HOME + """
            drop p coin = -3
            drop p p = -3
            drop p room = -3
            nose: thing PLAIN 0
            part nose p
            drop p nose = -3
            move coin other CARRIED
            drop p coin = -3
            move coin other WORN
            drop p coin = -3
            """);
        RUN.play("Promise 12: -3: what is in a box that is carried", HOME + """
            take p box
            move coin box IN
            drop p coin = -3
            """);
        RUN.play("Promise 12: -3: who is NOWHERE", HOME + """
            take p coin
            move p -1 IN
            drop p coin = -3
            wear p coin
            drop p coin = -3
            place coin = p WORN
            """);
    }

    private static void dropFull() {
        String before = """
            room: thing ROOM 2
            p: thing PERSON 1
            a: thing PLAIN 0
            b: thing PLAIN 0
            c: thing PLAIN 0
            move p room IN
            move a p CARRIED
            move b p WORN
            """;
        RUN.play("Promise 12: -5: it is WORN, and who is FULL", before + """
            drop p b = -5
            place b = p WORN
            told 1 = 3
            drop p a
            move c p CARRIED
            drop p b = -5
            """);
        RUN.play("Promise 12: CARRIED, though who is FULL", before + """
            drop p a
            place a = room IN
            """);
        RUN.play("Promise 12: -5: the person's holder is FULL, for what is CARRIED", before + """
            move c room IN
            drop p a = -5
            place a = p CARRIED
            """);
        RUN.play("Promise 12: -5: the person's holder is FULL, for what is WORN", before + """
            move c room IN
            move a -1 IN
            drop p b = -5
            place b = p WORN
            told 1 = 5
            move c -1 IN
            drop p b
            """);
        RUN.play("Promise 12: -5: both are FULL", before + """
            move c room IN
            drop p b = -5
            place b = p WORN
            """);
        RUN.play("Promise 12: -5: MOST 0 hinders what is WORN", """
            room: thing ROOM 9
            p: thing PERSON 0
            hat: thing PLAIN 0
            move p room IN
            move hat p WORN
            drop p hat = -5
            """);
        RUN.play("Promise 12: -3 ahead of -5", before + """
            move c room IN
            drop p c = -3
            move p -1 IN
            drop p b = -3
            """);
    }

    private static void put() {
        RUN.play("Promise 13: to a ROOM, BOX, TABLE or CART, by way 0 or 1 as that holds", HOME + """
            take p coin
            put p coin box
            change 0 = coin p box IN
            take p coin
            put p coin table
            change 0 = coin p table ON
            take p coin
            put p coin cart
            change 0 = coin p cart IN
            take p coin
            put p coin room
            change 0 = coin p room IN
            """);
        RUN.play("Promise 13: to what the person carries, or is in", HOME + """
            take p coin
            take p box
            put p coin box
            place coin = box IN
            move p cart IN
            put p box cart
            place box = cart IN
            """);
    }

    private static void putIsRefused() {
        eachWrongThing("Promise 13: a who that is none", "put ? coin box");
        eachWrongThing("Promise 13: a thing that is none", "put p ? box");
        for (String wrong : NO_THINGS) {
            RUN.play("Promise 13: a to that is none",
                    HOME + "take p coin\nput p coin " + wrong + " = -1\n");
        }
        eachThatIsNoPerson("Promise 13: -3: who is no PERSON", "move far room IN\n",
                "put ? far table");
        RUN.play("Promise 13: -3: does not carry it", HOME + """
            put p coin box = -3
            move coin p WORN
            put p coin box = -3
            move coin other CARRIED
            put p coin box = -3
            nose: thing PLAIN 0
            part nose p
            put p nose box = -3
            put p p box = -3
            """);
        RUN.play("Promise 13: -3: to is no ROOM, BOX, TABLE or CART", HOME + """
            take p coin
            move far room IN
            put p coin far = -3
            put p coin other = -3
            put p coin p = -3
            put p coin scene = -3
            """);
        RUN.play("Promise 13: -4: to is the thing or under it", HOME + """
            bag: thing BOX 9
            shelf: thing TABLE 9
            move bag box IN
            part shelf bag
            take p box
            put p box box = -4
            put p box bag = -4
            put p box shelf = -4
            put p box table
            """);
        RUN.play("Promise 13: -6", HOME + """
            take p coin
            put p coin hall = -6
            move box hall IN
            put p coin box = -6
            move box -1 IN
            put p coin box = -6
            move p -1 IN
            put p coin room = -6
            """);
        RUN.play("Promise 13: -5: to is FULL", """
            room: thing ROOM 2
            p: thing PERSON 9
            box: thing BOX 1
            a: thing PLAIN 0
            b: thing PLAIN 0
            move p room IN
            move box room IN
            move a p CARRIED
            move b p CARRIED
            put p a room = -5
            put p a box
            put p b box = -5
            move box -1 IN
            put p b room
            """);
    }

    private static void putIsBarred() {
        RUN.play("Promise 13: -10 - b: as touches() of to", HOME + """
            bag: thing BOX 9
            move bag box IN
            take p coin
            open box off
            put p coin bag = -10-box
            open box on
            put p coin bag
            """);
        RUN.play("Promise 13: -10 - b: what another carries", HOME + """
            take p coin
            move box other CARRIED
            put p coin box = -10-other
            """);
        RUN.play("Promise 13: then -10 - to when to is a closed BOX", HOME + """
            take p coin
            open box off
            put p coin box = -10-box
            clears box on
            put p coin box = -10-box
            open box on
            put p coin box
            """);
        RUN.play("Promise 13: then -10 - to, also when p carries to", HOME + """
            take p coin
            take p box
            open box off
            put p coin box = -10-box
            """);
        RUN.play("Promise 13: from inside a closed BOX", HOME + """
            take p coin
            move p box IN
            open box off
            put p coin room = -10-box
            put p coin box = -10-box
            """);
    }

    private static void putTwoRefusals() {
        String before = """
            room: thing ROOM 1
            hall: thing ROOM 0
            p: thing PERSON 9
            box: thing BOX 1
            bag: thing BOX 0
            coin: thing PLAIN 0
            cup: thing BOX 0
            far: thing PLAIN 0
            other: thing PERSON 9
            table: thing TABLE 9
            move p room IN
            move box p CARRIED
            move bag box IN
            move coin p CARRIED
            """;
        RUN.play("Promise 13: -3 ahead of -4", before + """
            put p coin coin = -3
            put p bag bag = -3
            put box bag bag = -3
            part far box
            put p box far = -3
            """);
        RUN.play("Promise 13: -3 ahead of -6", before + """
            put p coin other = -3
            put p far hall = -3
            put other coin room = -3
            """);
        RUN.play("Promise 13: -3 ahead of -10 - b", before + """
            open box off
            put p bag box = -3
            put p far bag = -3
            put p far box = -3
            """);
        RUN.play("Promise 13: -3 ahead of -5", before + """
            put p far room = -3
            put p bag box = -3
            """);
        RUN.play("Promise 13: -4 ahead of -10 - b, of -10 - to and of -5", before + """
            put p box box = -4
            put p box bag = -4
            open box off
            put p box box = -4
            put p box bag = -4
            """);
        RUN.play("Promise 13: -6 ahead of -10 - to and of -5", before + """
            put p coin hall = -6
            put p coin cup = -6
            open cup off
            put p coin cup = -6
            """);
        RUN.play("Promise 13: -10 - b ahead of -10 - to and of -5", before + """
            open box off
            put p coin bag = -10-box
            open bag off
            put p coin bag = -10-box
            open box on
            put p coin bag = -10-bag
            """);
        RUN.play("Promise 13: -10 - to ahead of -5", before + """
            put p coin box = -5
            open box off
            put p coin box = -10-box
            """);
    }

    private static void wear() {
        RUN.play("Promise 14: 1; 0 when the person wears it already", HOME + """
            take p coin
            wear p coin
            change 0 = coin p p WORN
            wear p coin = 0
            told 1 = 9
            move far p WORN
            wear p far = 0
            """);
        RUN.play("Promise 14: WORN does not fill, and FULL does not hinder", """
            p: thing PERSON 1
            a: thing PLAIN 0
            b: thing PLAIN 0
            move a p CARRIED
            wear p a
            move b p CARRIED
            wear p b
            holds p = a b
            """);
    }

    private static void wearIsRefused() {
        eachWrongThing("Promise 14: a who that is none", "wear ? coin");
        eachWrongThing("Promise 14: a thing that is none", "wear p ?");
        eachThatIsNoPerson("Promise 14: -3: who is no PERSON", "", "wear ? coin");
        RUN.play("Promise 14: -3: the thing is not PLAIN", HOME + """
            take p box
            take p table
            wear p box = -3
            wear p table = -3
            wear p cart = -3
            wear p p = -3
            wear p room = -3
            wear p scene = -3
            """);
        RUN.play("Promise 14: -3: neither carried nor worn by who", HOME + """
            wear p coin = -3
            move coin box IN
            move box p CARRIED
            wear p coin = -3
            move coin other CARRIED
            wear p coin = -3
            move coin other WORN
            wear p coin = -3
            part coin p
            wear p coin = -3
            """);
    }

    private static void enter() {
        RUN.play("Promise 15: a person gets into a BOX or a CART", HOME + """
            enter p box
            change 0 = p room box IN
            enter p cart
            change 0 = p box cart IN
            """);
        RUN.play("Promise 15: 0 when it is the person's holder", HOME + """
            enter p box
            enter p box = 0
            told 1 = 8
            """);
        RUN.play("Promise 15: from a BOX into the one that this is in", HOME + """
            move box cart IN
            enter p box
            enter p cart
            place p = cart IN
            """);
        RUN.play("Promise 15: a PART that is a BOX", HOME + """
            nest: thing BOX 9
            part nest table
            enter p nest
            place p = nest IN
            """);
    }

    private static void enterIsRefused() {
        eachWrongThing("Promise 15: a who that is none", "enter ? box");
        eachWrongThing("Promise 15: a thing that is none", "enter p ?");
        RUN.play("Promise 15: -3: who is no PERSON", HOME + """
            enter room box = -3
            enter box cart = -3
            enter cart box = -3
            enter table box = -3
            enter coin box = -3
            enter scene box = -3
            """);
        RUN.play("Promise 15: -3: the thing no BOX and no CART", HOME + """
            enter p room = -3
            enter p hall = -3
            enter p coin = -3
            enter p table = -3
            enter p other = -3
            enter p p = -3
            enter p scene = -3
            """);
        RUN.play("Promise 15: -4: the thing is under who", HOME + """
            take p box
            enter p box = -4
            bag: thing BOX 9
            move bag box IN
            enter p bag = -4
            part cart p
            enter p cart = -4
            """);
        RUN.play("Promise 15: -6", HOME + """
            move box hall IN
            enter p box = -6
            move box -1 IN
            enter p box = -6
            move p -1 IN
            enter p cart = -6
            """);
        RUN.play("Promise 15: -10 - b: as touches()", HOME + """
            bag: thing BOX 9
            move bag box IN
            open box off
            enter p bag = -10-box
            move bag other CARRIED
            enter p bag = -10-other
            enter p cart
            """);
        RUN.play("Promise 15: -10 - b: out of a closed BOX", HOME + """
            move p box IN
            open box off
            enter p cart = -10-box
            """);
        RUN.play("Promise 15: then -10 - thing when it is a closed BOX", HOME + """
            open box off
            enter p box = -10-box
            clears box on
            enter p box = -10-box
            open box on
            enter p box
            """);
        RUN.play("Promise 15: -5: it is FULL", """
            room: thing ROOM 9
            p: thing PERSON 9
            other: thing PERSON 9
            cart: thing CART 1
            box: thing BOX 0
            move p room IN
            move other room IN
            move cart room IN
            move box room IN
            enter p box = -5
            enter other cart
            enter p cart = -5
            leave other
            enter p cart
            """);
    }

    private static void enterTwoRefusals() {
        String before = """
            room: thing ROOM 9
            hall: thing ROOM 9
            p: thing PERSON 9
            box: thing BOX 1
            bag: thing BOX 0
            table: thing TABLE 9
            coin: thing PLAIN 0
            cup: thing BOX 0
            move box room IN
            move p room IN
            move bag room IN
            move cup -1 IN = 0
            """;
        RUN.play("Promise 15: -3 ahead of 0", before + """
            move coin box IN
            enter coin box = -3
            move p table ON
            enter p table = -3
            go p room = -3
            move p room IN
            enter p room = -3
            """);
        RUN.play("Promise 15: -3 ahead of -4", before + """
            move coin p CARRIED
            enter p coin = -3
            move bag box IN
            enter box bag = -3
            """);
        RUN.play("Promise 15: -3 ahead of -6, of -10 - b and of -5", before + """
            enter p hall = -3
            enter p coin = -3
            enter coin bag = -3
            move coin box IN
            open box off
            enter p coin = -3
            """);
        RUN.play("Promise 15: 0 ahead of -10 - b, of -10 - thing and of -5", before + """
            enter p box
            enter p box = 0
            open box off
            enter p box = 0
            """);
        RUN.play("Promise 15: -4 ahead of -10 - b, of -10 - thing and of -5", before + """
            move bag p CARRIED
            enter p bag = -4
            open bag off
            enter p bag = -4
            move cup box IN
            move box p CARRIED
            open box off
            enter p cup = -4
            """);
        RUN.play("Promise 15: -6 ahead of -10 - thing and of -5", before + """
            enter p cup = -6
            open cup off
            enter p cup = -6
            """);
        RUN.play("Promise 15: -10 - b ahead of -10 - thing and of -5", before + """
            move cup box IN
            enter p cup = -5
            open box off
            enter p cup = -10-box
            open cup off
            enter p cup = -10-box
            """);
        RUN.play("Promise 15: -10 - thing ahead of -5", before + """
            enter p bag = -5
            open bag off
            enter p bag = -10-bag
            """);
    }

    private static void leave() {
        RUN.play("Promise 16: to the holder of that, by the way of that", HOME + """
            enter p box
            leave p
            change 0 = p box room IN
            move cart table ON
            enter p cart
            leave p
            change 0 = p cart table ON
            """);
        RUN.play("Promise 16: one holder at a time", HOME + """
            move box cart IN
            move p box IN
            leave p
            place p = cart IN
            leave p
            place p = room IN
            leave p = -3
            """);
        RUN.play("Promise 16: a closed BOX further up does not hinder", HOME + """
            move cart box IN
            move p cart IN
            open box off
            leave p
            place p = box IN
            leave p = -10-box
            """);
    }

    private static void leaveIsRefused() {
        eachWrongThing("Promise 16: a who that is none", "leave ?");
        RUN.play("Promise 16: -3: who is no PERSON", HOME + """
            move coin box IN
            leave coin = -3
            leave room = -3
            leave box = -3
            leave table = -3
            leave cart = -3
            leave scene = -3
            """);
        RUN.play("Promise 16: -3: its holder is no BOX and no CART", HOME + """
            leave p = -3
            move p table ON
            leave p = -3
            move p -1 IN
            leave p = -3
            """);
        RUN.play("Promise 16: -3: that is NOWHERE", HOME + """
            enter p box
            move box -1 IN
            leave p = -3
            enter other cart
            move cart -1 IN
            leave other = -3
            """);
        RUN.play("Promise 16: -3: held by another way than 0 or 1: CARRIED", HOME + """
            enter p box
            move box other CARRIED
            leave p = -3
            """);
        RUN.play("Promise 16: -3: held by another way than 0 or 1: PART", HOME + """
            enter p box
            part box table
            leave p = -3
            enter other cart
            part cart table
            leave other = -3
            """);
        RUN.play("Promise 16: -10 - b: the BOX b that is left is closed", HOME + """
            enter p box
            open box off
            leave p = -10-box
            clears box on
            leave p = -10-box
            open box on
            leave p
            """);
        RUN.play("Promise 16: -5: where the person would come to is FULL", """
            room: thing ROOM 1
            cart: thing CART 1
            p: thing PERSON 0
            move cart room IN
            move p cart IN
            leave p = -5
            table: thing TABLE 1
            move cart table ON
            leave p = -5
            place p = cart IN
            """);
    }

    private static void leaveTwoRefusals() {
        RUN.play("Promise 16: -3 ahead of -10 - b", HOME + """
            enter p box
            open box off
            move box -1 IN
            leave p = -3
            move box other CARRIED
            leave p = -3
            part box table
            leave p = -3
            """);
        RUN.play("Promise 16: -3 ahead of -10 - b: who is no PERSON", HOME + """
            move coin box IN
            open box off
            leave coin = -3
            """);
        RUN.play("Promise 16: -3 ahead of -5", """
            other: thing PERSON 1
            table: thing TABLE 0
            box: thing BOX 1
            p: thing PERSON 0
            move p box IN
            move box other CARRIED
            leave p = -3
            part box table
            leave p = -3
            """);
        RUN.play("Promise 16: -10 - b ahead of -5", """
            room: thing ROOM 1
            box: thing BOX 1
            p: thing PERSON 0
            move box room IN
            move p box IN
            leave p = -5
            open box off
            leave p = -10-box
            """);
    }

    private static void go() {
        RUN.play("Promise 17: otherwise the person", HOME + """
            go p hall
            change 0 = p room hall IN
            told 1 = 8
            """);
        RUN.play("Promise 17: when its holder is a CART, that goes (with the person)", HOME + """
            enter p cart
            go p hall
            change 0 = cart room hall IN
            place p = cart IN
            told 1 = 9
            """);
        RUN.play("Promise 17: 0 when what would go is there already", HOME + """
            go p room = 0
            enter p cart
            go p room = 0
            go p hall
            go p hall = 0
            """);
        RUN.play("Promise 17: two in one CART", HOME + """
            enter p cart
            enter other cart
            go other hall
            root p = hall
            holds cart = p other
            """);
    }

    private static void goIsRefused() {
        eachWrongThing("Promise 17: a who that is none", "go ? hall");
        eachWrongThing("Promise 17: a room that is none", "go p ?");
        eachThatIsNoPerson("Promise 17: -3: who is no PERSON", "", "go ? hall");
        RUN.play("Promise 17: -3: room no ROOM", HOME + """
            go p box = -3
            go p table = -3
            go p cart = -3
            go p scene = -3
            go p coin = -3
            go p other = -3
            go p p = -3
            """);
        RUN.play("Promise 17: -3: the person is not held by a ROOM", HOME + """
            enter p box
            go p hall = -3
            go p room = -3
            move p table ON
            go p hall = -3
            move p -1 IN
            go p hall = -3
            """);
        RUN.play("Promise 17: -3: the CART is not held by a ROOM", HOME + """
            enter p cart
            move cart table ON
            go p hall = -3
            go p room = -3
            move cart box IN
            go p hall = -3
            move cart -1 IN
            go p hall = -3
            part cart table
            go p hall = -3
            """);
        RUN.play("Promise 17: -3: a CART in a CART", HOME + """
            tram: thing CART 9
            move tram room IN
            move cart tram IN
            move p cart IN
            go p hall = -3
            leave p
            go p hall
            change 0 = tram room hall IN
            """);
        RUN.play("Promise 17: -5: the room is FULL", """
            room: thing ROOM 9
            cell: thing ROOM 1
            shaft: thing ROOM 0
            p: thing PERSON 0
            other: thing PERSON 0
            cart: thing CART 9
            move p room IN
            move other room IN
            move cart room IN
            go p shaft = -5
            go p cell
            go other cell = -5
            enter other cart
            go other cell = -5
            go other shaft = -5
            go p room
            go other cell
            """);
    }

    private static void goTwoRefusals() {
        String before = """
            room: thing ROOM 9
            cell: thing ROOM 1
            p: thing PERSON 0
            other: thing PERSON 0
            box: thing BOX 9
            coin: thing PLAIN 0
            move p cell IN
            move box room IN
            move other box IN
            move coin room IN
            """;
        RUN.play("Promise 17: -3 ahead of 0", before + """
            go coin room = -3
            go other room = -3
            """);
        RUN.play("Promise 17: -3 ahead of -5", before + """
            go other cell = -3
            go coin cell = -3
            go box cell = -3
            """);
        RUN.play("Promise 17: 0 ahead of -5", before + """
            go p cell = 0
            """);
        RUN.play("Promise 17: 0 ahead of -5, for a CART", before + """
            cart: thing CART 9
            move p room IN
            move cart cell IN
            move p cart IN
            go p cell = 0
            """);
    }

    private static void loseOne() {
        eachWrongThing("Promise 18: a thing that is none", "lose ?");
        for (String kind : new String[] {"ROOM", "PLAIN", "BOX", "TABLE", "PERSON", "CART",
            "SCENE"}) {
            RUN.play("Promise 18: one that holds nothing", "x: thing " + kind + " 9\n" + """
                lose x
                told 0 = 0
                told 1 = 0
                told 2 = 0
                lose x = -1
                """);
        }
        RUN.play("Promise 18: one that is held: the others keep their order", HOME + """
            lose table
            holds room = p other box cart coin
            lose p
            holds room = other box cart coin
            lose coin
            holds room = other box cart
            told 1 = 7
            """);
        RUN.play("Promise 18: a ROOM: all that it held goes NOWHERE", HOME + """
            move coin box IN
            lose room
            told 1 = 13
            change 4 = p room none none
            change 3 = other room none none
            change 2 = box room none none
            change 1 = table room none none
            change 0 = cart room none none
            place coin = box IN
            touches p scene = -6
            told 2 = 5
            """);
        RUN.play("Promise 18: a SCENE", HOME + """
            lose scene
            told 0 = 9
            told 1 = 7
            """);
        RUN.play("Promise 18: a PERSON: what is CARRIED and WORN", HOME + """
            take p coin
            move far p WORN
            lose p
            place coin = none none
            place far = none none
            change 1 = coin p none none
            change 0 = far p none none
            """);
    }

    private static void loseWithParts() {
        RUN.play("Promise 18: with its PARTS, the PARTS of these, and so on", """
            a: thing PLAIN 0
            b: thing PLAIN 0
            c: thing PLAIN 0
            d: thing PLAIN 0
            part b a
            part c b
            part d a
            told 1 = 3
            lose a = 4
            told 0 = 0
            told 1 = 3
            holder b = -1
            holder c = -1
            holder d = -1
            """);
        RUN.play("Promise 18: a PART alone; its whole stays", """
            a: thing PLAIN 0
            b: thing PLAIN 0
            c: thing PLAIN 0
            part b a
            part c b
            lose b = 2
            holds a =
            told 0 = 1
            """);
        RUN.play("Promise 18: a PART of what it held is not gone", """
            box: thing BOX 9
            cup: thing BOX 9
            ear: thing PLAIN 0
            part ear cup
            move cup box IN
            lose box = 1
            place cup = none none
            place ear = cup PART
            told 0 = 2
            """);
        StringBuilder chain = new StringBuilder("t0: thing PLAIN 0\n");
        for (int t = 1; t < 20; t++) {
            chain.append("t" + t + ": thing PLAIN 0\npart t" + t + " t" + (t - 1) + "\n");
        }
        RUN.play("Promise 18: how many are gone: 20 at most", chain + """
            lose 0 = 20
            told 0 = 0
            told 1 = 19
            thing PLAIN 0 = -5
            """);
        RUN.play("Promise 18: how many are gone: all but the first", chain + """
            lose 1 = 19
            told 0 = 1
            walks 0 = 0
            """);
    }

    private static void loseInTheOrderOfTheWalk() {
        RUN.play("Promise 18: one after the other as they stand in walk()", """
            desk: thing TABLE 9
            lamp: thing PLAIN 0
            pen: thing PLAIN 0
            drawer: thing BOX 9
            tray: thing BOX 9
            clip: thing PLAIN 0
            cup: thing BOX 9
            tea: thing PLAIN 0
            part drawer desk
            part tray drawer
            move clip tray IN
            move pen drawer IN
            move cup desk ON
            move tea cup IN
            move lamp desk ON
            walks desk = desk drawer tray clip pen cup tea lamp
            told 1 = 7
            lose desk = 3
            told 1 = 11
            change 3 = clip tray none none
            change 2 = pen drawer none none
            change 1 = cup desk none none
            change 0 = lamp desk none none
            place tea = cup IN
            told 0 = 5
            told 2 = 4
            """);
        StringBuilder wide = new StringBuilder("box: thing BOX 9\nbag: thing BOX 9\npart bag box\n");
        for (int t = 0; t < 18; t++) {
            wide.append("t" + t + ": thing PLAIN 0\nmove t" + t + (t < 9 ? " bag" : " box")
                    + " IN\n");
        }
        RUN.play("Promise 18: 18 go NOWHERE at once", wide + """
            told 1 = 19
            lose box = 2
            told 0 = 18
            told 1 = 37
            told 2 = 18
            change 17 = t0 bag none none
            change 9 = t8 bag none none
            change 8 = t9 box none none
            change 0 = t17 box none none
            row 29 0 = t6
            row 30 0 = -2
            """);
    }
}
