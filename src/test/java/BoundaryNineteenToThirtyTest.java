/** The sentences of promises 19 to 30 that name a boundary case, a written run for each. */
public final class BoundaryNineteenToThirtyTest {
    private static final Script RUN = new Script();
    private static final String[] NO_THINGS = {"-1", "-2", "MIN", "MAX", "20", "10"};

    /** A room with a box, a coin in that and a person; what is elsewhere; one of each kind. */
    private static final String HOME = """
        room: thing ROOM 9
        hall: thing ROOM 9
        p: thing PERSON 9
        box: thing BOX 9
        coin: thing PLAIN 0
        far: thing PLAIN 0
        table: thing TABLE 9
        cart: thing CART 9
        scene: thing SCENE 0
        move p room IN
        move box room IN
        move coin box IN
        move far hall IN
        """;
    private static final String[] NO_PERSONS = {
        "room", "box", "table", "cart", "scene", "coin",
    };

    public static void main(String[] args) {
        touches();
        touchesTwoRefusals();
        sees();
        seesTwoRefusals();
        light();
        holderAndWay();
        child();
        count();
        walk();
        root();
        ring();
        rowOfNone();
        rowColumns();
        rowOutside();
        toldThings();
        toldChanges();
        toldNowhere();
        RUN.demand("touches", 1, -1, -3, -6, -10);
        RUN.demand("sees", 1, -1, -3, -6, -7, -10);
        RUN.demand("light", 1, 0, -1, -3);
        RUN.demand("holder", 1, -1, -8);
        RUN.demand("way", 1, -1, -8);
        RUN.demand("child", 1, -1, -2);
        RUN.demand("count", 1, -1);
        RUN.demand("walk", 1, -1, -2);
        RUN.demand("root", 1, -1);
        RUN.demand("ring", 1, 0, -1);
        RUN.demand("row", 1, -2, -8);
        RUN.demand("told", 1, -2);
        RUN.end();
    }

    private static void eachWrongThing(String sentence, String call) {
        for (String wrong : NO_THINGS) {
            RUN.play(sentence, HOME + call.replace("?", wrong) + " = -1\n");
        }
    }

    private static void eachThatIsNoPerson(String sentence, String call) {
        for (String who : NO_PERSONS) {
            RUN.play(sentence, HOME + call.replace("?", who) + " = -3\n");
        }
    }

    private static void touches() {
        eachWrongThing("Promise 19: a who that is none", "touches ? coin");
        eachWrongThing("Promise 19: a thing that is none", "touches p ?");
        eachThatIsNoPerson("Promise 19: -3: who is no PERSON", "touches ? p");
        eachThatIsNoPerson("Promise 19: -3: who is no PERSON, also of itself", "touches ? ?");
        RUN.play("Promise 19: 1", HOME + """
            touches p coin
            touches p box
            touches p room
            touches p p
            """);
        RUN.play("Promise 19: -6", HOME + """
            touches p far = -6
            touches p hall = -6
            touches p table = -6
            touches p scene = -6
            """);
        RUN.play("Promise 19: -10 - b: the route is barred for TOUCH", HOME + """
            open box off
            touches p coin = -10-box
            """);
        RUN.play("Promise 19: no LIGHT is wanted", HOME + """
            lit room off
            touches p coin
            """);
    }

    private static void touchesTwoRefusals() {
        RUN.play("Promise 19: -3 ahead of -6 and of -10 - b", HOME + """
            touches coin far = -3
            touches box hall = -3
            touches table scene = -3
            open box off
            touches coin room = -3
            """);
    }

    private static void sees() {
        eachWrongThing("Promise 20: a who that is none", "sees ? coin");
        eachWrongThing("Promise 20: a thing that is none", "sees p ?");
        eachThatIsNoPerson("Promise 20: -3: who is no PERSON", "sees ? p");
        RUN.play("Promise 20: 1", HOME + """
            sees p coin
            sees p box
            sees p room
            sees p p
            """);
        RUN.play("Promise 20: -6", HOME + """
            sees p far = -6
            sees p hall = -6
            sees p table = -6
            sees p scene = -6
            """);
        RUN.play("Promise 20: -10 - b: the route is barred for SIGHT", HOME + """
            open box off
            sees p coin = -10-box
            clears box on
            sees p coin
            """);
        RUN.play("Promise 20: -7: the person has no LIGHT", HOME + """
            lit room off
            sees p coin = -7
            sees p room = -7
            sees p p = -7
            glows far on
            sees p coin = -7
            glows coin on
            sees p coin
            sees p room
            """);
    }

    private static void seesTwoRefusals() {
        RUN.play("Promise 20: -3 ahead of -6, of -10 - b and of -7", HOME + """
            lit room off
            sees coin far = -3
            open box off
            sees coin room = -3
            sees box box = -3
            """);
        RUN.play("Promise 20: -6 ahead of -7", HOME + """
            lit room off
            sees p far = -6
            sees p scene = -6
            """);
        RUN.play("Promise 20: -10 - b ahead of -7", HOME + """
            lit room off
            open box off
            sees p coin = -10-box
            """);
        RUN.play("Promise 20: -10 - b ahead of -7, from inside", HOME + """
            move p box IN
            open box off
            light p = 0
            sees p room = -10-box
            sees p coin = -10-box
            sees p p = -7
            """);
    }

    private static void light() {
        eachWrongThing("Promise 21: a who that is none", "light ?");
        eachThatIsNoPerson("Promise 21: -3: who is no PERSON", "light ?");
        RUN.play("Promise 21: -3: who is no PERSON, also one that GLOWS", HOME + """
            glows coin on
            light coin = -3
            light room = -3
            """);
        RUN.play("Promise 21: 1, 0", HOME + """
            light p
            lit room off
            light p = 0
            glows coin on
            light p
            open box off
            light p = 0
            glows box on
            light p
            glows box off
            glows p on
            light p
            """);
    }

    private static void holderAndWay() {
        eachWrongThing("Promise 22: a thing that is none", "holder ?");
        eachWrongThing("Promise 23: a thing that is none", "way ?");
        RUN.play("Promise 22: -8: it has none (a ROOM, a SCENE, too)", HOME + """
            holder room = none
            holder scene = none
            holder table = none
            holder coin = box
            move coin -1 IN
            holder coin = none
            """);
        RUN.play("Promise 22: the holder 0, and not its root", HOME + """
            holder p = 0
            holder coin = box
            """);
        RUN.play("Promise 23: -8: it has no holder", HOME + """
            way room = none
            way scene = none
            way table = none
            move coin -1 IN
            way coin = none
            """);
        RUN.play("Promise 23: each of the ways", HOME + """
            way coin = 0
            move coin table ON
            way coin = 1
            move coin p CARRIED
            way coin = 2
            move coin p WORN
            way coin = 3
            part coin p
            way coin = 4
            """);
    }

    private static void child() {
        eachWrongThing("Promise 24: a thing that is none", "child ? 0");
        eachWrongThing("Promise 24: a thing that is none, and there is none such", "child ? -1");
        RUN.play("Promise 24: the i-th (from 0)", HOME + """
            child room 0 = p
            child room 1 = box
            child room 2 = -2
            """);
        RUN.play("Promise 24: -2: there is none such", HOME + """
            child room -1 = -2
            child room MIN = -2
            child room MAX = -2
            child room 19 = -2
            child room 20 = -2
            """);
        RUN.play("Promise 24: -2: one that holds nothing", HOME + """
            child coin 0 = -2
            child hall 1 = -2
            child scene 0 = -2
            move coin -1 IN
            child box 0 = -2
            """);
        StringBuilder lines = new StringBuilder("p: thing PERSON 9\n");
        for (int t = 1; t < 20; t++) {
            lines.append("t" + t + ": thing PLAIN 0\nmove t" + t + " p WORN\n");
        }
        RUN.play("Promise 24: the last of 19", lines + """
            child p 18 = 19
            child p 19 = -2
            child p 0 = 1
            """);
    }

    private static void count() {
        eachWrongThing("Promise 25: a thing that is none", "count ?");
        RUN.play("Promise 25: how many are under a thing: not itself", HOME + """
            count room = 3
            count box = 1
            count coin = 0
            count scene = 0
            count table = 0
            """);
        RUN.play("Promise 25: by every way", HOME + """
            move coin p WORN
            move far p CARRIED
            part table far
            count p = 3
            count room = 5
            """);
    }

    private static void walk() {
        eachWrongThing("Promise 26: a thing that is none", "walk ? 0");
        eachWrongThing("Promise 26: a thing that is none, and there is none such", "walk ? -1");
        RUN.play("Promise 26: the thing itself, then those that it holds", HOME + """
            walk room 0 = room
            walk room 1 = p
            walk room 2 = box
            walk room 3 = coin
            walk room 4 = -2
            walk coin 0 = coin
            walk coin 1 = -2
            """);
        RUN.play("Promise 26: -2: there is none such", HOME + """
            walk room -1 = -2
            walk room MIN = -2
            walk room MAX = -2
            walk room 19 = -2
            walk room 20 = -2
            """);
        RUN.play("Promise 26: a shorter walk after a longer one", HOME + """
            walk room 3 = coin
            walk box 2 = -2
            walk box 3 = -2
            walk hall 1 = far
            walk hall 2 = -2
            """);
        RUN.play("Promise 26: each with all that is under it in the same manner", HOME + """
            cup: thing BOX 9
            move table room IN
            move cup box IN
            move cart cup IN
            part far cart
            move coin box IN = 0
            walks room = room p box coin cup cart far table
            walks box = box coin cup cart far
            walks cup = cup cart far
            """);
    }

    private static void root() {
        eachWrongThing("Promise 27: a thing that is none", "root ?");
        RUN.play("Promise 27: the ROOT of a thing", HOME + """
            root coin = room
            root room = room
            root scene = scene
            root table = table
            move box -1 IN
            root coin = box
            lose box
            root coin = coin
            """);
    }

    private static void ring() {
        eachWrongThing("Promise 28: an a that is none", "ring ? coin");
        eachWrongThing("Promise 28: a b that is none", "ring coin ?");
        eachWrongThing("Promise 28: both are none", "ring ? ?");
        RUN.play("Promise 28: whether b is a, or under it: 1, 0", HOME + """
            ring room room
            ring room box
            ring room coin
            ring box coin
            ring coin coin
            ring coin box = 0
            ring coin room = 0
            ring hall coin = 0
            ring p coin = 0
            ring scene scene
            ring room scene = 0
            """);
    }

    private static void rowOfNone() {
        RUN.play("Promise 29: -2: no such change is kept: none was", """
            row 0 0 = -2
            room: thing ROOM 9
            row 0 0 = -2
            row 0 3 = -2
            """);
    }

    private static void rowColumns() {
        RUN.play("Promise 29: the thing, its holder before, its holder then, its way then", HOME + """
            change 0 = far none hall IN
            change 1 = coin none box IN
            change 2 = box none room IN
            change 3 = p none room IN
            row 4 0 = -2
            take p coin
            change 0 = coin box p CARRIED
            wear p coin
            change 0 = coin p p WORN
            part coin table
            change 0 = coin p table PART
            move p -1 IN
            change 0 = p room none none
            """);
        RUN.play("Promise 29: the thing, also one that is gone since", HOME + """
            lose coin
            change 0 = far none hall IN
            change 1 = coin none box IN
            lose box
            change 1 = coin none box IN
            change 2 = box none room IN
            lose room
            change 0 = p room none none
            change 3 = box none room IN
            """);
        RUN.play("Promise 29: holder then and way then, not now", HOME + """
            move coin table ON
            move coin p CARRIED
            change 1 = coin box table ON
            change 2 = far none hall IN
            """);
        RUN.play("Promise 29: -8 for none: a holder before, a holder then, a way then", HOME + """
            move coin -1 WORN
            row 0 2 = none
            row 0 3 = none
            move coin room IN
            row 0 1 = none
            """);
    }

    private static void rowOutside() {
        RUN.play("Promise 29: -2: no such change is kept", HOME + """
            row -1 0 = -2
            row MIN 0 = -2
            row MAX 0 = -2
            row 3 0 = p
            row 4 0 = -2
            row 29 0 = -2
            row 30 0 = -2
            """);
        RUN.play("Promise 29: -2: another what", HOME + """
            row 0 -1 = -2
            row 0 4 = -2
            row 0 MIN = -2
            row 0 MAX = -2
            row 0 0 = far
            row 0 3 = 0
            """);
        RUN.play("Promise 29: -2: both", HOME + """
            row -1 -1 = -2
            row 4 4 = -2
            row -1 4 = -2
            """);
        RUN.play("Promise 29: what is refused leaves no row", HOME + """
            move coin coin IN = -3
            take p far = -6
            take p room = -3
            change 0 = far none hall IN
            told 1 = 4
            """);
    }

    private static void toldThings() {
        RUN.play("Promise 30: how many things there are", HOME + """
            told 0 = 9
            lose coin
            told 0 = 8
            thing PLAIN 10 = -2
            told 0 = 8
            more: thing SCENE 0
            told 0 = 9
            """);
        RUN.play("Promise 30: -2: another what", HOME + """
            told -1 = -2
            told 3 = -2
            told MIN = -2
            told MAX = -2
            """);
    }

    private static void toldChanges() {
        RUN.play("Promise 30: how many CHANGES there were since the beginning or clear()", HOME + """
            told 1 = 4
            move coin box IN = 0
            move coin coin IN = -3
            told 1 = 4
            move coin room IN
            told 1 = 5
            clear
            told 1 = 0
            """ + HOME + """
            told 1 = 4
            """);
        StringBuilder lines = new StringBuilder("a: thing ROOM 9\nb: thing ROOM 9\nc: thing PLAIN 0\n");
        for (int n = 1; n <= 45; n++) {
            lines.append("move c a IN\nmove c b IN\n");
        }
        RUN.play("Promise 30: how many CHANGES, more than are kept", lines + """
            told 1 = 90
            row 29 0 = c
            row 30 0 = -2
            """);
    }

    private static void toldNowhere() {
        RUN.play("Promise 30: how many are NOWHERE that are no ROOM and no SCENE", """
            told 2 = 0
            room: thing ROOM 9
            scene: thing SCENE 0
            told 2 = 0
            coin: thing PLAIN 0
            told 2 = 1
            box: thing BOX 9
            p: thing PERSON 9
            told 2 = 3
            move coin box IN
            told 2 = 2
            move box room IN
            told 2 = 1
            lose p
            told 2 = 0
            lose box
            told 2 = 1
            lose coin
            told 2 = 0
            told 0 = 2
            """);
    }
}
