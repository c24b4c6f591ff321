/** The sentences of 'Terms' that name a boundary case, one written run or more for each. */
public final class BoundaryTermsTest {
    private static final Script RUN = new Script();
    private static final String[] KINDS = {
        "ROOM", "PLAIN", "BOX", "TABLE", "PERSON", "CART", "SCENE",
    };
    private static final String[] WAYS = {"IN", "ON", "CARRIED", "WORN"};

    public static void main(String[] args) {
        twentyAreMadeAtMost();
        goneIsNoneForEver();
        waysInWhichKindsHold();
        nowhereAtFirst();
        orderOfComing();
        fullAtMost();
        fullCountsWaysZeroToTwo();
        underAndRoot();
        scenes();
        atFirst();
        theRoute();
        theRouteToAScene();
        apart();
        touchIsBarredByAClosedBox();
        touchIsBarredByAnotherPerson();
        sightIsBarred();
        theFirstStepTells();
        lightOfRooms();
        lightOfThingsThatGlow();
        changes();
        thirtyChangesAreKept();
        minusOneAheadOfMinusTwo();
        minusOneAheadOfState();
        minusTwoAheadOfAllElse();
        RUN.end();
    }

    private static String things(int from, int to, String kindAndMost) {
        StringBuilder lines = new StringBuilder();
        for (int t = from; t <= to; t++) {
            lines.append("t").append(t).append(": thing ").append(kindAndMost).append('\n');
        }
        return lines.toString();
    }

    private static void twentyAreMadeAtMost() {
        RUN.play("20 are made at most: the 20th", things(0, 18, "PLAIN 9") + """
            holder 19 = -1
            told 0 = 19
            last: thing PLAIN 9
            told 0 = 20
            holder 19 = none
            """);
        RUN.play("20 are made at most: the 21st", things(0, 19, "PLAIN 9") + """
            thing PLAIN 9 = -5
            thing ROOM 0 = -5
            told 0 = 20
            holder 20 = -1
            """);
        RUN.play("20 are made at most, of any kinds", things(0, 9, "ROOM 0")
                + things(10, 19, "SCENE 9") + """
            thing SCENE 9 = -5
            """);
        RUN.play("20 are made at most, also when some are gone", things(0, 19, "PLAIN 9") + """
            lose 0
            lose 19
            thing PLAIN 9 = -5
            told 0 = 18
            """);
        RUN.play("what is refused is not made", things(0, 18, "PLAIN 9") + """
            thing PLAIN 10 = -2
            thing 7 9 = -2
            last: thing PLAIN 9
            thing PLAIN 9 = -5
            """);
        RUN.play("the 20th is a thing like others", things(0, 19, "BOX 1") + """
            move 18 19 IN
            holds 19 = 18
            open 19 off
            glows 19 on
            lose 19
            place 18 = none none
            """);
    }

    private static void goneIsNoneForEver() {
        String before = """
            room: thing ROOM 9
            p: thing PERSON 9
            coin: thing PLAIN 9
            scene: thing SCENE 9
            move p room IN
            move coin p CARRIED
            lose coin
            """;
        RUN.play("a thing that is gone is none for ever: for the maker", before + """
            move coin room IN = -1
            move coin -1 IN = -1
            move p coin IN = -1
            part coin p = -1
            part p coin = -1
            open coin on = -1
            open coin off = -1
            clears coin on = -1
            clears coin off = -1
            lit coin on = -1
            lit coin off = -1
            glows coin on = -1
            glows coin off = -1
            spread coin room on = -1
            spread scene coin on = -1
            lose coin = -1
            """);
        RUN.play("a thing that is gone is none for ever: for a person", before + """
            take p coin = -1
            take coin p = -1
            drop p coin = -1
            drop coin p = -1
            put p coin room = -1
            put coin p room = -1
            put p p coin = -1
            wear p coin = -1
            wear coin p = -1
            enter p coin = -1
            enter coin p = -1
            leave coin = -1
            go p coin = -1
            go coin room = -1
            """);
        RUN.play("a thing that is gone is none for ever: for a look", before + """
            touches p coin = -1
            touches coin p = -1
            sees p coin = -1
            sees coin p = -1
            light coin = -1
            holder coin = -1
            way coin = -1
            child coin 0 = -1
            count coin = -1
            walk coin 0 = -1
            root coin = -1
            ring coin p = -1
            ring p coin = -1
            told 0 = 3
            """);
        RUN.play("a thing that is gone is none for ever: its number is not given again", before + """
            next: thing PLAIN 0
            holder next = none
            holder coin = -1
            lose coin = -1
            told 0 = 4
            """);
        RUN.play("a thing that is gone is none for ever: its holder holds it no more", before + """
            holds p =
            walks room = room p
            """);
        RUN.play("a thing that is gone: its PART is gone as well", """
            box: thing BOX 9
            lid: thing PLAIN 0
            part lid box
            lose box = 2
            holder lid = -1
            lose lid = -1
            """);
        RUN.play("a thing that is gone: clear() ends that, the number is given again", before + """
            clear
            holder 2 = -1
            a: thing PLAIN 0
            b: thing PLAIN 0
            c: thing BOX 0
            open c off
            """);
    }

    private static boolean holds(String kind, String way) {
        switch (way) {
            case "IN": return kind.equals("ROOM") || kind.equals("BOX") || kind.equals("CART");
            case "ON": return kind.equals("TABLE");
            default: return kind.equals("PERSON");
        }
    }

    private static void waysInWhichKindsHold() {
        for (String kind : KINDS) {
            for (String way : WAYS) {
                RUN.play("0 IN (ROOM, BOX and CART hold so), 1 ON (TABLE), 2, 3 (PERSON)",
                        "h: thing " + kind + " 9\ncoin: thing PLAIN 0\nmove coin h " + way
                        + (holds(kind, way) ? " = 1\nplace coin = h " + way : " = -3")
                        + (holds(kind, way) ? "\nholds h = coin" : "\nholds h ="));
            }
            boolean hasNoParts = kind.equals("ROOM") || kind.equals("SCENE");
            RUN.play("4 PART (all but ROOM and SCENE)",
                    "h: thing " + kind + " 9\ncoin: thing PLAIN 0\npart coin h = "
                    + (hasNoParts ? "-3\nplace coin = none none" : "1\nplace coin = h PART"));
        }
    }

    private static void nowhereAtFirst() {
        for (String kind : KINDS) {
            boolean counts = !kind.equals("ROOM") && !kind.equals("SCENE");
            RUN.play("NOWHERE (at first)", "x: thing " + kind + " 9\nplace x = none none\n"
                    + "root x = x\nholds x =\nwalks x = x\ntold 1 = 0\n"
                    + "told 2 = " + (counts ? 1 : 0));
        }
    }

    private static void orderOfComing() {
        String three = """
            room: thing ROOM 9
            p: thing PERSON 9
            a: thing PLAIN 0
            b: thing PLAIN 0
            c: thing PLAIN 0
            """;
        RUN.play("in the order in which it came there", three + """
            move c room IN
            move a room IN
            move b room IN
            holds room = c a b
            move c room IN = 0
            holds room = c a b
            move c -1 IN
            holds room = a b
            move c room IN
            holds room = a b c
            move b -1 IN
            holds room = a c
            """);
        RUN.play("what comes to the same holder by another way, comes anew", three + """
            move a p CARRIED
            move b p WORN
            move c p CARRIED
            holds p = a b c
            move a p WORN
            holds p = b c a
            move b p CARRIED
            holds p = c a b
            wear p c
            holds p = a b c
            take p a
            holds p = b c a
            part c p
            holds p = b a c
            """);
        RUN.play("a try that is refused keeps the order", """
            p: thing PERSON 1
            a: thing PLAIN 0
            b: thing PLAIN 0
            move a p WORN
            move b p CARRIED
            move a p CARRIED = -5
            take p a = -5
            wear p a = 0
            take p b = 0
            holds p = a b
            """);
    }

    private static void fullAtMost() {
        for (int kind = 0; kind < KINDS.length; kind++) {
            for (String way : WAYS) {
                if (!holds(KINDS[kind], way) || way.equals("WORN")) {
                    continue;
                }
                for (int most : new int[] {0, 1, 2, 8, 9}) {
                    StringBuilder lines = new StringBuilder("h: thing " + KINDS[kind] + " " + most);
                    lines.append('\n').append(things(1, most + 1, "PLAIN 0"));
                    for (int t = 1; t <= most; t++) {
                        lines.append("move t" + t + " h " + way + "\n");
                    }
                    lines.append("move t" + (most + 1) + " h " + way + " = -5\n");
                    lines.append("count h = " + most + "\n");
                    RUN.play("FULL when it holds MOST things", lines.toString());
                }
            }
        }
        RUN.play("FULL: what goes makes place for one more", """
            box: thing BOX 1
            a: thing PLAIN 0
            b: thing PLAIN 0
            move a box IN
            move b box IN = -5
            move a -1 IN
            move b box IN
            move a box IN = -5
            lose b
            move a box IN
            """);
        RUN.play("FULL: what is under those that it holds does not count", """
            box: thing BOX 2
            bag: thing BOX 2
            a: thing PLAIN 0
            b: thing PLAIN 0
            c: thing PLAIN 0
            d: thing PLAIN 0
            move bag box IN
            move a bag IN
            move b bag IN
            move c box IN
            move d box IN = -5
            walks box = box bag a b c
            """);
    }

    private static void fullCountsWaysZeroToTwo() {
        RUN.play("FULL counts ways 0 to 2: not what is WORN, nor PARTS", """
            p: thing PERSON 1
            hat: thing PLAIN 0
            cap: thing PLAIN 0
            nose: thing PLAIN 0
            coin: thing PLAIN 0
            more: thing PLAIN 0
            move hat p WORN
            move cap p WORN
            part nose p
            move coin p CARRIED
            move more p CARRIED = -5
            holds p = hat cap nose coin
            """);
        for (String kindAndWay : new String[] {"BOX 1 IN", "CART 1 IN", "TABLE 1 ON"}) {
            String[] words = kindAndWay.split(" ");
            RUN.play("FULL counts ways 0 to 2: not PARTS of a " + words[0],
                    "h: thing " + words[0] + " 1\n" + things(1, 4, "PLAIN 0")
                    + "part t1 h\npart t2 h\nmove t3 h " + words[2] + "\nmove t4 h " + words[2]
                    + " = -5\npart t4 h\nholds h = t1 t2 t3 t4\n");
        }
        RUN.play("FULL does not hinder what is WORN, nor PARTS, also with MOST 0", """
            p: thing PERSON 0
            hat: thing PLAIN 0
            nose: thing PLAIN 0
            move hat p CARRIED = -5
            move hat p WORN
            part nose p
            move hat p CARRIED = -5
            holds p = hat nose
            """);
        RUN.play("FULL: a PART made of what was CARRIED makes place", """
            p: thing PERSON 1
            a: thing PLAIN 0
            b: thing PLAIN 0
            move a p CARRIED
            move b p CARRIED = -5
            part a p
            move b p CARRIED
            """);
    }

    private static void underAndRoot() {
        RUN.play("UNDER a thing are those that it holds, and what is under these", """
            room: thing ROOM 9
            box: thing BOX 9
            p: thing PERSON 9
            hat: thing PLAIN 0
            plume: thing PLAIN 0
            coin: thing PLAIN 0
            move box room IN
            move p box IN
            move hat p WORN
            part plume hat
            move coin p CARRIED
            ring room plume
            ring box coin
            ring plume plume
            ring plume hat = 0
            ring coin plume = 0
            count room = 5
            count plume = 0
            """);
        RUN.play("the ROOT is the one without holder, or it itself when it has none", """
            room: thing ROOM 9
            scene: thing SCENE 0
            box: thing BOX 9
            coin: thing PLAIN 0
            root room = room
            root scene = scene
            root box = box
            move coin box IN
            root coin = box
            move box room IN
            root coin = room
            move box -1 IN
            root coin = box
            move coin -1 IN
            root coin = coin
            """);
        StringBuilder chain = new StringBuilder(things(0, 19, "BOX 1"));
        for (int t = 1; t < 20; t++) {
            chain.append("move t" + t + " t" + (t - 1) + " IN\n");
        }
        RUN.play("UNDER and ROOT at the greatest depth", chain + """
            root 19 = 0
            count 0 = 19
            count 19 = 0
            ring 0 19
            ring 19 0 = 0
            walk 0 19 = 19
            walk 0 20 = -2
            move 0 19 IN = -4
            part 0 19 = -4
            """);
    }

    private static void scenes() {
        RUN.play("a SCENE is in ROOMS, none at first", """
            room: thing ROOM 9
            hall: thing ROOM 9
            scene: thing SCENE 9
            p: thing PERSON 9
            move p room IN
            spread scene room off = 0
            spread scene hall off = 0
            touches p scene = -6
            sees p scene = -6
            """);
        RUN.play("a SCENE is in ROOMS, some", """
            room: thing ROOM 9
            hall: thing ROOM 9
            scene: thing SCENE 9
            p: thing PERSON 9
            move p room IN
            spread scene room on
            spread scene hall on
            touches p scene
            go p hall
            touches p scene
            spread scene hall off
            touches p scene = -6
            go p room
            touches p scene
            """);
        RUN.play("a SCENE has no holder, and holds nothing", """
            room: thing ROOM 9
            scene: thing SCENE 9
            p: thing PERSON 9
            coin: thing PLAIN 0
            move p room IN
            spread scene room on
            place scene = none none
            move scene room IN = -3
            part scene p = -3
            take p scene = -3
            move coin scene IN = -3
            part coin scene = -3
            move coin p CARRIED
            put p coin scene = -3
            enter p scene = -3
            holds scene =
            walks room = room p coin
            ring room scene = 0
            """);
        RUN.play("a SCENE: the 1st and the 20th thing may be its ROOM", things(0, 0, "ROOM 9")
                + things(1, 17, "PLAIN 0") + """
            scene: thing SCENE 0
            last: thing ROOM 9
            spread scene last on
            spread scene 0 off = 0
            spread scene last on = 0
            spread scene 0 on
            spread scene last off
            spread scene 0 off
            """);
    }

    private static void atFirst() {
        RUN.play("a BOX is open (at first), not CLEAR (at first)", """
            box: thing BOX 0
            open box on = 0
            clears box off = 0
            glows box off = 0
            """);
        RUN.play("a ROOM is LIT (at first)", """
            room: thing ROOM 0
            lit room on = 0
            """);
        for (String kind : KINDS) {
            if (!kind.equals("ROOM")) {
                RUN.play("other things GLOW or not (at first)",
                        "x: thing " + kind + " 0\nglows x off = 0\nglows x on\n");
            }
        }
    }

    private static void theRoute() {
        RUN.play("the route to p itself has no step", """
            p: thing PERSON 0
            touches p p
            box: thing BOX 9
            move p box IN
            open box off
            touches p p
            sees p p = -7
            """);
        RUN.play("the route up to a holder, and on to its holder", """
            room: thing ROOM 9
            cart: thing CART 9
            table: thing TABLE 9
            p: thing PERSON 0
            move table room IN
            move cart table ON
            move p cart IN
            touches p cart
            touches p table
            touches p room
            """);
        RUN.play("the route down from p itself", """
            p: thing PERSON 9
            bag: thing BOX 9
            purse: thing BOX 9
            coin: thing PLAIN 0
            nose: thing PLAIN 0
            move bag p CARRIED
            move purse bag IN
            move coin purse IN
            part nose p
            touches p bag
            touches p coin
            touches p nose
            open purse off
            touches p purse
            touches p coin = -10-purse
            """);
        RUN.play("the route turns at the first one that t is under, not further up", """
            room: thing ROOM 9
            chest: thing BOX 9
            cart: thing CART 9
            p: thing PERSON 9
            coin: thing PLAIN 0
            move chest room IN
            move cart chest IN
            move p cart IN
            move coin cart IN
            open chest off
            touches p coin
            touches p cart
            touches p chest = -10-chest
            touches p room = -10-chest
            """);
        RUN.play("the route up and down again", """
            room: thing ROOM 9
            cart: thing CART 9
            p: thing PERSON 9
            table: thing TABLE 9
            cup: thing BOX 9
            tea: thing PLAIN 0
            move cart room IN
            move p cart IN
            move table room IN
            move cup table ON
            move tea cup IN
            touches p tea
            sees p tea
            """);
    }

    private static void theRouteToAScene() {
        RUN.play("to a SCENE: p's ROOT must be a ROOM", """
            room: thing ROOM 9
            scene: thing SCENE 0
            box: thing BOX 9
            p: thing PERSON 9
            spread scene room on
            touches p scene = -6
            move p box IN
            touches p scene = -6
            move box room IN
            touches p scene
            """);
        RUN.play("to a SCENE: a ROOM that the SCENE is in", """
            room: thing ROOM 9
            hall: thing ROOM 9
            scene: thing SCENE 0
            p: thing PERSON 9
            move p room IN
            spread scene hall on
            touches p scene = -6
            sees p scene = -6
            spread scene room on
            touches p scene
            sees p scene
            """);
        RUN.play("to a SCENE: the steps up are barred as others are", """
            room: thing ROOM 9
            scene: thing SCENE 0
            other: thing PERSON 9
            box: thing BOX 9
            p: thing PERSON 9
            move other room IN
            move box other CARRIED
            move p box IN
            spread scene room on
            touches p scene = -10-other
            sees p scene
            open box off
            touches p scene = -10-box
            sees p scene = -10-box
            clears box on
            touches p scene = -10-box
            sees p scene
            """);
    }

    private static void apart() {
        RUN.play("APART: no such route", """
            room: thing ROOM 9
            hall: thing ROOM 9
            p: thing PERSON 9
            coin: thing PLAIN 0
            hat: thing PLAIN 0
            touches p coin = -6
            touches p room = -6
            move hat p WORN
            touches p hat
            move p room IN
            touches p coin = -6
            touches p hall = -6
            touches p room
            move coin hall IN
            touches p coin = -6
            sees p coin = -6
            go p hall
            touches p coin
            touches p room = -6
            """);
        RUN.play("APART: two NOWHERE are so, two in one that is NOWHERE are not", """
            box: thing BOX 9
            p: thing PERSON 9
            other: thing PERSON 9
            touches p other = -6
            touches p box = -6
            move p box IN
            touches p box
            touches p other = -6
            move other box IN
            touches p other
            """);
    }

    private static void touchIsBarredByAClosedBox() {
        String before = """
            room: thing ROOM 9
            box: thing BOX 9
            p: thing PERSON 9
            coin: thing PLAIN 0
            knob: thing PLAIN 0
            move box room IN
            move p room IN
            move coin box IN
            part knob box
            """;
        RUN.play("for TOUCH a step is BARRED by a closed BOX", before + """
            touches p coin
            open box off
            touches p coin = -10-box
            open box on
            touches p coin
            """);
        RUN.play("a closed BOX that holds by way 0: not its PARTS, nor itself", before + """
            open box off
            touches p knob
            touches p box
            """);
        RUN.play("for TOUCH a closed BOX bars, CLEAR or not", before + """
            open box off
            clears box on
            touches p coin = -10-box
            """);
        RUN.play("a closed BOX bars from inside, too", before + """
            move p box IN
            touches p room
            touches p coin
            open box off
            touches p room = -10-box
            touches p box = -10-box
            touches p knob = -10-box
            touches p coin = -10-box
            """);
        RUN.play("a closed BOX does not bar what is in a PART of it", before + """
            cup: thing BOX 9
            tea: thing PLAIN 0
            part cup box
            move tea cup IN
            open box off
            touches p tea
            open cup off
            touches p tea = -10-cup
            """);
    }

    private static void touchIsBarredByAnotherPerson() {
        String before = """
            room: thing ROOM 9
            p: thing PERSON 9
            other: thing PERSON 9
            coin: thing PLAIN 0
            move p room IN
            move other room IN
            """;
        RUN.play("by a PERSON other than p that holds by way 2", before + """
            move coin other CARRIED
            touches p coin = -10-other
            touches other coin
            """);
        RUN.play("by a PERSON other than p that holds by way 3", before + """
            move coin other WORN
            touches p coin = -10-other
            touches other coin
            """);
        RUN.play("by a PERSON: not by way 4, nor the PERSON itself", before + """
            part coin other
            touches p coin
            touches p other
            """);
        RUN.play("p itself does not bar", before + """
            move coin p CARRIED
            touches p coin
            wear p coin
            touches p coin
            touches other coin = -10-p
            """);
        RUN.play("by a PERSON who carries the BOX that p is in", before + """
            bag: thing BOX 9
            move bag other CARRIED
            move p bag IN
            touches p bag
            touches p other = -10-other
            touches p room = -10-other
            touches other p
            """);
        RUN.play("by a PERSON who is carried in a BOX by p", before + """
            bag: thing BOX 9
            move bag p CARRIED
            move other bag IN
            move coin other CARRIED
            touches p other
            touches p coin = -10-other
            """);
    }

    private static void sightIsBarred() {
        String before = """
            room: thing ROOM 9
            p: thing PERSON 9
            box: thing BOX 9
            coin: thing PLAIN 0
            move p room IN
            move box room IN
            move coin box IN
            """;
        RUN.play("for SIGHT by a closed BOX that is not CLEAR", before + """
            sees p coin
            open box off
            sees p coin = -10-box
            sees p box
            clears box on
            sees p coin
            clears box off
            sees p coin = -10-box
            open box on
            sees p coin
            """);
        RUN.play("for SIGHT: not its PARTS", before + """
            knob: thing PLAIN 0
            part knob box
            open box off
            sees p knob
            """);
        RUN.play("for SIGHT: no PERSON bars", before + """
            other: thing PERSON 9
            move other room IN
            move coin other CARRIED
            sees p coin
            wear other coin
            sees p coin
            """);
        RUN.play("for SIGHT from inside a closed BOX", before + """
            lamp: thing PLAIN 0
            glows lamp on
            move p box IN
            move lamp p CARRIED
            open box off
            sees p room = -10-box
            sees p box = -10-box
            sees p coin = -10-box
            sees p lamp
            clears box on
            sees p room
            """);
    }

    private static void theFirstStepTells() {
        String before = """
            room: thing ROOM 9
            outer: thing BOX 9
            inner: thing BOX 9
            p: thing PERSON 9
            chest: thing BOX 9
            case: thing BOX 9
            coin: thing PLAIN 0
            move outer room IN
            move inner outer IN
            move p inner IN
            move chest room IN
            move case chest IN
            move coin case IN
            """;
        RUN.play("the first step that is barred tells: up before up", before + """
            open inner off
            open outer off
            touches p room = -10-inner
            sees p room = -10-inner
            open inner on
            touches p room = -10-outer
            sees p room = -10-outer
            """);
        RUN.play("the first step that is barred tells: up before down", before + """
            open outer off
            open chest off
            touches p coin = -10-outer
            sees p coin = -10-outer
            """);
        RUN.play("the first step that is barred tells: down, from the top", before + """
            open chest off
            open case off
            touches p coin = -10-chest
            sees p coin = -10-chest
            open chest on
            touches p coin = -10-case
            sees p coin = -10-case
            """);
        RUN.play("the first for TOUCH need not be the first for SIGHT", before + """
            open inner off
            clears inner on
            open case off
            touches p coin = -10-inner
            sees p coin = -10-case
            """);
        RUN.play("the holder's number tells, 0 and 19, too", """
            box: thing BOX 9
            coin: thing PLAIN 0
            """ + things(2, 16, "PLAIN 0") + """
            p: thing PERSON 9
            room: thing ROOM 9
            last: thing BOX 9
            move p room IN
            move box room IN
            move last room IN
            move coin box IN
            open box off
            open last off
            touches p coin = -10
            move coin last IN
            touches p coin = -29
            sees p coin = -29
            """);
    }

    private static void lightOfRooms() {
        RUN.play("LIGHT: a ROOM that is LIT, not APART", """
            room: thing ROOM 9
            hall: thing ROOM 9
            p: thing PERSON 9
            light p = 0
            move p room IN
            light p
            lit room off
            light p = 0
            lit hall on = 0
            light p = 0
            """);
        RUN.play("LIGHT: the route is not barred for SIGHT", """
            room: thing ROOM 9
            box: thing BOX 9
            p: thing PERSON 9
            move box room IN
            move p box IN
            light p
            open box off
            light p = 0
            clears box on
            light p
            """);
        RUN.play("LIGHT: a PERSON who carries the BOX that p is in does not bar it", """
            room: thing ROOM 9
            other: thing PERSON 9
            box: thing BOX 9
            p: thing PERSON 9
            move other room IN
            move box other CARRIED
            move p box IN
            light p
            """);
    }

    private static void lightOfThingsThatGlow() {
        RUN.play("LIGHT: p, too", """
            p: thing PERSON 0
            light p = 0
            glows p on
            light p
            box: thing BOX 9
            move p box IN
            open box off
            light p
            """);
        for (String kind : new String[] {"PLAIN", "BOX", "TABLE", "PERSON", "CART"}) {
            RUN.play("LIGHT: another thing that GLOWS", "room: thing ROOM 9\np: thing PERSON 9\n"
                    + "lamp: thing " + kind + " 0\n" + """
                lit room off
                move p room IN
                glows lamp on
                light p = 0
                move lamp room IN
                light p
                glows lamp off
                light p = 0
                """);
        }
        RUN.play("LIGHT: a SCENE that GLOWS", """
            room: thing ROOM 9
            p: thing PERSON 9
            sun: thing SCENE 0
            lit room off
            move p room IN
            glows sun on
            light p = 0
            spread sun room on
            light p
            spread sun room off
            light p = 0
            """);
        RUN.play("LIGHT: a lamp in a BOX", """
            room: thing ROOM 9
            p: thing PERSON 9
            box: thing BOX 9
            lamp: thing PLAIN 0
            lit room off
            move p room IN
            move box room IN
            move lamp box IN
            glows lamp on
            light p
            open box off
            light p = 0
            clears box on
            light p
            """);
        RUN.play("LIGHT: a thing that is gone gives none", """
            room: thing ROOM 9
            p: thing PERSON 9
            lamp: thing PLAIN 0
            lit room off
            move p room IN
            move lamp room IN
            glows lamp on
            light p
            lose lamp
            light p = 0
            """);
    }

    private static void changes() {
        RUN.play("a CHANGE is each coming of a thing to a holder, or to NOWHERE", """
            room: thing ROOM 9
            coin: thing PLAIN 0
            told 1 = 0
            move coin room IN
            told 1 = 1
            change 0 = coin none room IN
            move coin -1 IN
            told 1 = 2
            change 0 = coin room none none
            change 1 = coin none room IN
            move coin -1 IN = 0
            told 1 = 2
            """);
        RUN.play("a thing that is gone makes none", """
            room: thing ROOM 9
            coin: thing PLAIN 0
            move coin room IN
            lose coin
            told 1 = 1
            change 0 = coin none room IN
            row 1 0 = -2
            lose room
            told 1 = 1
            """);
        RUN.play("what only opens, shines or spreads is no CHANGE", """
            room: thing ROOM 9
            box: thing BOX 9
            scene: thing SCENE 9
            open box off
            clears box on
            lit room off
            glows box on
            spread scene room on
            told 1 = 0
            row 0 0 = -2
            """);
        RUN.play("what goes with its holder makes none", """
            room: thing ROOM 9
            hall: thing ROOM 9
            cart: thing CART 9
            p: thing PERSON 9
            move cart room IN
            move p cart IN
            go p hall
            told 1 = 3
            change 0 = cart room hall IN
            """);
    }

    private static void thirtyChangesAreKept() {
        StringBuilder lines = new StringBuilder("a: thing ROOM 9\nb: thing ROOM 9\nc: thing PLAIN 0\n");
        for (int n = 1; n <= 29; n++) {
            lines.append("move c " + (n % 2 == 1 ? "a" : "b") + " IN\n");
        }
        RUN.play("the latest 30 are kept: after 29", lines + """
            told 1 = 29
            row 28 0 = c
            change 28 = c none a IN
            row 29 0 = -2
            """);
        lines.append("move c b IN\n");
        RUN.play("the latest 30 are kept: after 30", lines + """
            told 1 = 30
            change 29 = c none a IN
            row 30 0 = -2
            """);
        lines.append("move c a IN\n");
        RUN.play("the latest 30 are kept: after 31", lines + """
            told 1 = 31
            change 0 = c b a IN
            change 29 = c a b IN
            row 30 0 = -2
            """);
        lines.append("move c -1 IN\n");
        RUN.play("the latest 30 are kept: after 32", lines + """
            told 1 = 32
            change 0 = c a none none
            change 1 = c b a IN
            change 29 = c b a IN
            row 30 0 = -2
            row 31 0 = -2
            """);
        RUN.play("the latest 30 are kept: none after clear()", lines + """
            clear
            told 1 = 0
            row 0 0 = -2
            row 29 0 = -2
            """);
    }

    private static void minusOneAheadOfMinusTwo() {
        RUN.play("-1 and -2 ahead of all: of the two, -1", """
            room: thing ROOM 9
            box: thing BOX 9
            move 9 room 4 = -1
            move box 9 4 = -1
            move 9 -1 -1 = -1
            child 9 -1 = -1
            child 9 MAX = -1
            walk 9 -1 = -1
            walk 9 MAX = -1
            """);
    }

    private static void minusOneAheadOfState() {
        String before = """
            room: thing ROOM 9
            p: thing PERSON 9
            coin: thing PLAIN 0
            scene: thing SCENE 0
            move p room IN
            """;
        RUN.play("-1 ahead of -3, for the maker", before + """
            move room 9 IN = -1
            move scene 9 IN = -1
            part room 9 = -1
            part p 9 = -1
            part 9 room = -1
            part 9 scene = -1
            spread coin 9 on = -1
            spread 9 coin on = -1
            """);
        RUN.play("-1 ahead of -3, for a person", before + """
            take coin 9 = -1
            take 9 room = -1
            drop coin 9 = -1
            drop 9 coin = -1
            put coin coin 9 = -1
            put coin 9 room = -1
            put 9 coin coin = -1
            put p coin 9 = -1
            put p 9 coin = -1
            wear coin 9 = -1
            wear 9 room = -1
            enter coin 9 = -1
            enter 9 room = -1
            go coin 9 = -1
            go 9 coin = -1
            touches coin 9 = -1
            touches 9 coin = -1
            sees coin 9 = -1
            sees 9 coin = -1
            """);
    }

    private static void minusTwoAheadOfAllElse() {
        RUN.play("-2 ahead of -3, of 0, of -4 and of -5", """
            room: thing ROOM 9
            box: thing BOX 0
            coin: thing PLAIN 0
            lid: thing PLAIN 0
            scene: thing SCENE 0
            part lid box
            move coin room IN
            move room box 4 = -2
            move scene room -1 = -2
            move lid room 4 = -2
            move lid box PART = -2
            move coin room 4 = -2
            move box -1 4 = -2
            move box box -1 = -2
            move coin box 4 = -2
            """);
        RUN.play("-2 ahead of -5, for a new thing", things(0, 19, "PLAIN 0") + """
            thing -1 0 = -2
            thing 7 0 = -2
            thing PLAIN -1 = -2
            thing PLAIN 10 = -2
            thing PLAIN 9 = -5
            """);
    }
}
