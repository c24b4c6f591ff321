/** The sentences of promises 1 to 10 that name a boundary case, a written run for each. */
public final class BoundaryOneToTenTest {
    private static final Script RUN = new Script();
    private static final String[] NO_THINGS = {"-1", "-2", "MIN", "MAX", "20", "9"};

    /** One thing of each kind, all NOWHERE. */
    private static final String ONE_OF_EACH = """
        room: thing ROOM 9
        coin: thing PLAIN 9
        box: thing BOX 9
        table: thing TABLE 9
        p: thing PERSON 9
        cart: thing CART 9
        scene: thing SCENE 9
        """;

    public static void main(String[] args) {
        aNewObject();
        clear();
        clearLeavesNothing();
        thing();
        moveWrongThings();
        moveWrongWay();
        moveWhatCannotMove();
        moveByAWayThatCannotBe();
        moveThereAlready();
        moveNowhere();
        moveRing();
        moveFull();
        moveTwoRefusals();
        part();
        partIsRefused();
        partTwoRefusals();
        open();
        clears();
        lit();
        glows();
        spread();
        RUN.demand("clear", 1);
        RUN.demand("thing", 1, -2, -5);
        RUN.demand("move", 1, 0, -1, -2, -3, -4, -5);
        RUN.demand("part", 1, -1, -3, -4);
        RUN.demand("open", 1, 0, -1, -3);
        RUN.demand("clears", 1, 0, -1, -3);
        RUN.demand("lit", 1, 0, -1, -3);
        RUN.demand("glows", 1, 0, -1, -3);
        RUN.demand("spread", 1, 0, -1, -3);
        RUN.end();
    }

    private static void eachWrongThing(String sentence, String before, String call) {
        for (String wrong : NO_THINGS) {
            RUN.play(sentence, before + call.replace("?", wrong) + " = -1\n");
        }
    }

    private static void aNewObject() {
        RUN.play("Promise 1: no things", """
            told 0 = 0
            told 1 = 0
            told 2 = 0
            row 0 0 = -2
            holder 0 = -1
            holder 19 = -1
            first: thing ROOM 0
            """);
    }

    private static void clear() {
        RUN.play("Promise 2: as it was made, also when it is new", """
            clear
            told 0 = 0
            told 1 = 0
            told 2 = 0
            first: thing ROOM 0
            """);
        StringBuilder twenty = new StringBuilder();
        for (int t = 0; t < 20; t++) {
            twenty.append("t" + t + ": thing BOX 9\n");
        }
        RUN.play("Promise 2: after 20 things there are 20 more", twenty + """
            thing BOX 9 = -5
            clear
            holder 0 = -1
            holder 19 = -1
            told 0 = 0
            told 2 = 0
            """ + twenty + """
            thing BOX 9 = -5
            """);
        RUN.play("Promise 2: twice", ONE_OF_EACH + """
            clear
            clear
            told 0 = 0
            again: thing PLAIN 0
            told 0 = 1
            """);
    }

    private static void clearLeavesNothing() {
        RUN.play("Promise 2: as it was made: no holder, no switch, no change is left", ONE_OF_EACH + """
            move coin room IN
            part table box
            open box off
            clears box on
            lit room off
            glows coin on
            spread scene room on
            lose p
            clear
            told 0 = 0
            told 1 = 0
            told 2 = 0
            row 0 0 = -2
            """ + ONE_OF_EACH + """
            holds room =
            holds box =
            place coin = none none
            place table = none none
            open box on = 0
            clears box off = 0
            lit room on = 0
            glows coin off = 0
            spread scene room off = 0
            told 0 = 7
            told 2 = 5
            move coin room IN
            told 1 = 1
            change 0 = coin none room IN
            row 1 0 = -2
            """);
    }

    private static void thing() {
        RUN.play("Promise 3: -2: kind is not 0 .. 6", """
            thing -1 0 = -2
            thing 7 0 = -2
            thing MIN 0 = -2
            thing MAX 0 = -2
            told 0 = 0
            a: thing 0 0
            b: thing 6 0
            told 0 = 2
            """);
        RUN.play("Promise 3: -2: most not 0 .. 9", """
            thing BOX -1 = -2
            thing BOX 10 = -2
            thing BOX MIN = -2
            thing BOX MAX = -2
            told 0 = 0
            a: thing BOX 0
            b: thing BOX 9
            told 0 = 2
            """);
        RUN.play("Promise 3: -2: both", """
            thing -1 -1 = -2
            thing 7 10 = -2
            """);
        RUN.play("Promise 3: a new thing, NOWHERE: its number", """
            a: thing PLAIN 9
            place a = none none
            b: thing BOX 9
            place b = none none
            told 1 = 0
            told 2 = 2
            lose b
            c: thing BOX 9
            holder 1 = -1
            holder 2 = none
            """);
        StringBuilder nineteen = new StringBuilder();
        for (int t = 0; t < 19; t++) {
            nineteen.append("t" + t + ": thing SCENE 0\n");
        }
        RUN.play("Promise 3: -5: 20 were made", nineteen + """
            last: thing ROOM 9
            thing ROOM 9 = -5
            thing PLAIN 0 = -5
            told 0 = 20
            """);
    }

    private static void moveWrongThings() {
        eachWrongThing("Promise 4: a thing that is none", ONE_OF_EACH, "move ? room IN");
        eachWrongThing("Promise 4: a thing that is none, to NOWHERE", ONE_OF_EACH, "move ? -1 IN");
        for (String wrong : new String[] {"-2", "-3", "-8", "MIN", "MAX", "20", "9"}) {
            RUN.play("Promise 4: a holder that is none, but for -1",
                    ONE_OF_EACH + "move coin " + wrong + " IN = -1\n");
        }
    }

    private static void moveWrongWay() {
        for (String way : new String[] {"-1", "4", "5", "MIN", "MAX"}) {
            RUN.play("Promise 4: -2: way is not 0 .. 3", ONE_OF_EACH
                    + "move coin room " + way + " = -2\n");
            RUN.play("Promise 4: -2: way is not 0 .. 3 (also with to -1)", ONE_OF_EACH
                    + "move coin room IN\nmove coin -1 " + way + " = -2\nplace coin = room IN\n");
        }
        RUN.play("Promise 4: by PART no whole holds for the maker's hand", ONE_OF_EACH + """
            move coin box PART = -2
            place coin = none none
            """);
    }

    private static void moveWhatCannotMove() {
        RUN.play("Promise 4: -3: it is a ROOM", ONE_OF_EACH + """
            move room box IN = -3
            move room table ON = -3
            move room p CARRIED = -3
            move room p WORN = -3
            """);
        RUN.play("Promise 4: -3: it is a SCENE", ONE_OF_EACH + """
            move scene room IN = -3
            move scene table ON = -3
            move scene p CARRIED = -3
            move scene p WORN = -3
            """);
        RUN.play("Promise 4: -3: it is a PART", ONE_OF_EACH + """
            part coin box
            move coin room IN = -3
            move coin box IN = -3
            move coin p CARRIED = -3
            move coin p WORN = -3
            move coin table ON = -3
            place coin = box PART
            """);
    }

    private static void moveByAWayThatCannotBe() {
        RUN.play("Promise 4: -3: with a holder told, that does not hold by that way", ONE_OF_EACH + """
            move coin room ON = -3
            move coin room CARRIED = -3
            move coin room WORN = -3
            move coin box ON = -3
            move coin cart ON = -3
            move coin table IN = -3
            move coin table WORN = -3
            move coin p IN = -3
            move coin p ON = -3
            move box coin IN = -3
            move box coin ON = -3
            move coin scene IN = -3
            """);
        RUN.play("Promise 4: -3: way is 2 and it is a PERSON or a CART", ONE_OF_EACH + """
            other: thing PERSON 9
            move other p CARRIED = -3
            move cart p CARRIED = -3
            move coin p CARRIED
            move box p CARRIED
            move table p CARRIED
            holds p = coin box table
            """);
        RUN.play("Promise 4: -3: way is 3 and it is not PLAIN", ONE_OF_EACH + """
            other: thing PERSON 9
            move box p WORN = -3
            move table p WORN = -3
            move cart p WORN = -3
            move other p WORN = -3
            move coin p WORN
            holds p = coin
            """);
        RUN.play("Promise 4: a PERSON and a CART may be IN and ON", ONE_OF_EACH + """
            move p room IN
            move cart table ON
            move p cart IN
            move table box IN
            walks box = box table cart p
            """);
    }

    private static void moveThereAlready() {
        RUN.play("Promise 4: 0 when it is there so already", ONE_OF_EACH + """
            move coin p CARRIED
            move coin p CARRIED = 0
            move coin p WORN
            move coin p WORN = 0
            move coin table ON
            move coin table ON = 0
            move coin cart IN
            move coin cart IN = 0
            told 1 = 4
            """);
    }

    private static void moveNowhere() {
        RUN.play("Promise 4: to = -1: it goes NOWHERE; 0 when it is there already", ONE_OF_EACH + """
            move coin -1 IN = 0
            move p -1 IN = 0
            move coin box IN
            move coin -1 IN
            place coin = none none
            change 0 = coin box none none
            move coin -1 IN = 0
            holds box =
            """);
        RUN.play("Promise 4: to = -1, by any way of 0 .. 3", ONE_OF_EACH + """
            move coin box IN
            move coin -1 ON
            move coin box IN
            move coin -1 CARRIED
            move coin box IN
            move coin -1 WORN
            told 1 = 6
            """);
        RUN.play("Promise 4: to = -1: no holder is told, so the way hinders no kind", ONE_OF_EACH + """
            move p room IN
            move p -1 CARRIED
            move cart room IN
            move cart -1 CARRIED
            move box room IN
            move box -1 WORN
            move table -1 WORN = 0
            """);
        RUN.play("Promise 4: to = -1: -3 for a ROOM, a SCENE and a PART, ahead of 0", ONE_OF_EACH + """
            move room -1 IN = -3
            move scene -1 IN = -3
            part coin box
            move coin -1 IN = -3
            place coin = box PART
            """);
        RUN.play("Promise 4: to = -1: what is under it goes along", ONE_OF_EACH + """
            move box room IN
            move coin box IN
            move box -1 IN
            walks box = box coin
            holds room =
            told 1 = 3
            """);
    }

    private static void moveRing() {
        RUN.play("Promise 4: -4: to is the thing", ONE_OF_EACH + """
            move box box IN = -4
            move cart cart IN = -4
            move table table ON = -4
            """);
        RUN.play("Promise 4: -4: to is under the thing", ONE_OF_EACH + """
            bag: thing BOX 9
            move bag box IN
            move box bag IN = -4
            move cart bag IN
            move box cart IN = -4
            move p cart IN
            move box p CARRIED = -4
            part table p
            move box table ON = -4
            move bag table ON = -4
            move bag box IN = 0
            walks box = box bag cart p table
            """);
    }

    private static void moveFull() {
        RUN.play("Promise 4: -5: to is FULL", """
            room: thing ROOM 1
            box: thing BOX 1
            cart: thing CART 1
            table: thing TABLE 1
            p: thing PERSON 1
            a: thing PLAIN 0
            b: thing PLAIN 0
            move a room IN
            move b room IN = -5
            move a box IN
            move b box IN = -5
            move a cart IN
            move b cart IN = -5
            move a table ON
            move b table ON = -5
            move a p CARRIED
            move b p CARRIED = -5
            place b = none none
            """);
        RUN.play("Promise 4: -5: not for way 3", """
            p: thing PERSON 0
            a: thing PLAIN 0
            b: thing PLAIN 0
            move a p CARRIED = -5
            move a p WORN
            move b p WORN
            holds p = a b
            move a p CARRIED = -5
            """);
    }

    private static void moveTwoRefusals() {
        String before = """
            room: thing ROOM 1
            p: thing PERSON 0
            box: thing BOX 0
            bag: thing BOX 1
            lid: thing PLAIN 9
            coin: thing PLAIN 0
            cart: thing CART 0
            table: thing TABLE 0
            part lid box
            move coin room IN
            """;
        RUN.play("Promise 4: -3 ahead of -4", before + """
            move box box ON = -3
            move cart cart CARRIED = -3
            move p p CARRIED = -3
            move p p WORN = -3
            move lid lid IN = -3
            move room room IN = -3
            move table table IN = -3
            """);
        RUN.play("Promise 4: -3 ahead of -5", before + """
            move cart p CARRIED = -3
            move coin box ON = -3
            move lid room IN = -3
            move room box IN = -3
            move bag room ON = -3
            """);
        RUN.play("Promise 4: 0 ahead of -5", before + """
            move coin room IN = 0
            move bag room IN = -5
            """);
        RUN.play("Promise 4: -4 ahead of -5", before + """
            move box box IN = -4
            move cart cart IN = -4
            move table table ON = -4
            move p bag IN
            move bag p CARRIED = -4
            """);
    }

    private static void part() {
        RUN.play("Promise 5: a thing comes to another one as its PART", ONE_OF_EACH + """
            nail: thing PLAIN 0
            move nail room IN
            part nail coin
            place nail = coin PART
            change 0 = nail room coin PART
            holds room =
            part coin table
            part table cart
            part cart box
            part box p
            walks p = p box cart table coin nail
            """);
        RUN.play("Promise 5: a PART does not fill, and what is FULL has PARTS", """
            box: thing BOX 0
            a: thing PLAIN 0
            b: thing PLAIN 0
            part a box
            part b box
            holds box = a b
            """);
    }

    private static void partIsRefused() {
        eachWrongThing("Promise 5: a thing that is none", ONE_OF_EACH, "part ? box");
        eachWrongThing("Promise 5: a whole that is none", ONE_OF_EACH, "part coin ?");
        RUN.play("Promise 5: -3: it is a ROOM, a SCENE, a PERSON", ONE_OF_EACH + """
            part room box = -3
            part scene box = -3
            part p box = -3
            """);
        RUN.play("Promise 5: -3: a PART already", ONE_OF_EACH + """
            part coin box
            part coin table = -3
            part coin box = -3
            place coin = box PART
            told 1 = 1
            """);
        RUN.play("Promise 5: -3: whole is a ROOM or a SCENE", ONE_OF_EACH + """
            part coin room = -3
            part coin scene = -3
            place coin = none none
            """);
        RUN.play("Promise 5: -4: whole is the thing", ONE_OF_EACH + """
            part coin coin = -4
            part box box = -4
            part table table = -4
            part cart cart = -4
            """);
        RUN.play("Promise 5: -4: whole is under the thing", ONE_OF_EACH + """
            part coin box
            part box coin = -4
            move table box IN
            part box table = -4
            move p table ON
            part box p = -4
            """);
    }

    private static void partTwoRefusals() {
        RUN.play("Promise 5: -3 ahead of -4", ONE_OF_EACH + """
            part room room = -3
            part scene scene = -3
            part p p = -3
            move p room IN
            part room p = -3
            part box table
            part coin box
            part box box = -3
            part box coin = -3
            move coin p CARRIED = -3
            move cart room IN
            move p cart IN
            nose: thing PLAIN 0
            part nose p
            part p nose = -3
            """);
    }

    private static void open() {
        eachWrongThing("Promise 6: a thing that is none", ONE_OF_EACH, "open ? off");
        RUN.play("Promise 6: 1; 0 when it was so", ONE_OF_EACH + """
            open box on = 0
            open box off
            open box off = 0
            open box on
            open box on = 0
            """);
        for (String kind : new String[] {"room", "coin", "table", "p", "cart", "scene"}) {
            RUN.play("Promise 6: -3: no BOX", ONE_OF_EACH + "open " + kind + " on = -3\nopen "
                    + kind + " off = -3\n");
        }
    }

    private static void clears() {
        eachWrongThing("Promise 7: a thing that is none", ONE_OF_EACH, "clears ? on");
        RUN.play("Promise 7: 1; 0 when it was so", ONE_OF_EACH + """
            clears box off = 0
            clears box on
            clears box on = 0
            clears box off
            clears box off = 0
            """);
        for (String kind : new String[] {"room", "coin", "table", "p", "cart", "scene"}) {
            RUN.play("Promise 7: -3: no BOX", ONE_OF_EACH + "clears " + kind + " on = -3\nclears "
                    + kind + " off = -3\n");
        }
        RUN.play("Promises 6 and 7: open and CLEAR are two", ONE_OF_EACH + """
            clears box on
            open box on = 0
            open box off
            clears box on = 0
            clears box off
            open box off = 0
            """);
    }

    private static void lit() {
        eachWrongThing("Promise 8: a thing that is none", ONE_OF_EACH, "lit ? off");
        RUN.play("Promise 8: 1; 0 when it was so", ONE_OF_EACH + """
            hall: thing ROOM 0
            lit room on = 0
            lit room off
            lit room off = 0
            lit hall on = 0
            lit room on
            lit room on = 0
            """);
        for (String kind : new String[] {"coin", "box", "table", "p", "cart", "scene"}) {
            RUN.play("Promise 8: -3: no ROOM", ONE_OF_EACH + "lit " + kind + " on = -3\nlit "
                    + kind + " off = -3\n");
        }
    }

    private static void glows() {
        eachWrongThing("Promise 9: a thing that is none", ONE_OF_EACH, "glows ? on");
        for (String kind : new String[] {"coin", "box", "table", "p", "cart", "scene"}) {
            RUN.play("Promise 9: 1; 0 when it was so", ONE_OF_EACH + """
                glows ? off = 0
                glows ? on
                glows ? on = 0
                glows ? off
                glows ? off = 0
                """.replace("?", kind));
        }
        RUN.play("Promise 9: -3: a ROOM", ONE_OF_EACH + """
            glows room on = -3
            glows room off = -3
            lit room on = 0
            """);
    }

    private static void spread() {
        eachWrongThing("Promise 10: a scene that is none", ONE_OF_EACH, "spread ? room on");
        eachWrongThing("Promise 10: a room that is none", ONE_OF_EACH, "spread scene ? on");
        RUN.play("Promise 10: 1; 0 when it was so", ONE_OF_EACH + """
            hall: thing ROOM 0
            spread scene room off = 0
            spread scene room on
            spread scene room on = 0
            spread scene hall off = 0
            spread scene hall on
            spread scene room off
            spread scene room off = 0
            spread scene hall on = 0
            """);
        RUN.play("Promise 10: each SCENE has ROOMS of its own", ONE_OF_EACH + """
            sky: thing SCENE 0
            spread scene room on
            spread sky room off = 0
            spread sky room on
            spread scene room off
            spread sky room on = 0
            """);
        RUN.play("Promise 10: a ROOM with MOST 0 hinders none", """
            cell: thing ROOM 0
            scene: thing SCENE 0
            sky: thing SCENE 0
            spread scene cell on
            spread sky cell on
            holds cell =
            """);
        for (String kind : new String[] {"room", "coin", "box", "table", "p", "cart"}) {
            RUN.play("Promise 10: -3: scene is no SCENE",
                    ONE_OF_EACH + "spread " + kind + " room on = -3\n");
        }
        for (String kind : new String[] {"coin", "box", "table", "p", "cart", "scene"}) {
            RUN.play("Promise 10: -3: room no ROOM",
                    ONE_OF_EACH + "spread scene " + kind + " on = -3\nspread scene " + kind
                    + " off = -3\n");
        }
    }
}
