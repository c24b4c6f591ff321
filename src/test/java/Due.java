/** Counts the answers that are not as due, and ends a test with exit code 1 if there were any. */
final class Due {
    private int wrong;

    void is(String call, int got, int want) {
        if (got != want) {
            tell(call + " answered " + got + ", due is " + want);
        }
    }

    void yes(String what, boolean holds) {
        if (!holds) {
            tell("does not hold: " + what);
        }
    }

    /** The walk of a thing, whole, its count, and that it ends where it is due. */
    void walk(String where, ThingTrees x, int thing, int... want) {
        is(where + ": count(" + thing + ")", x.count(thing), want.length - 1);
        for (int i = 0; i < want.length; i++) {
            is(where + ": walk(" + thing + ", " + i + ")", x.walk(thing, i), want[i]);
        }
        is(where + ": walk(" + thing + ", " + want.length + ")", x.walk(thing, want.length), -2);
    }

    void children(String where, ThingTrees x, int thing, int... want) {
        for (int i = 0; i < want.length; i++) {
            is(where + ": child(" + thing + ", " + i + ")", x.child(thing, i), want[i]);
        }
        is(where + ": child(" + thing + ", " + want.length + ")", x.child(thing, want.length), -2);
    }

    /** The i-th latest change, all its columns. */
    void row(String where, ThingTrees x, int i, int thing, int before, int then, int way) {
        int[] want = {thing, before, then, way};
        for (int what = 0; what < want.length; what++) {
            is(where + ": row(" + i + ", " + what + ")", x.row(i, what), want[what]);
        }
    }

    void place(String where, ThingTrees x, int thing, int holder, int way) {
        is(where + ": holder(" + thing + ")", x.holder(thing), holder);
        is(where + ": way(" + thing + ")", x.way(thing), way);
    }

    boolean isWrong() {
        return wrong != 0;
    }

    void end() {
        System.out.println(wrong == 0 ? "all answers are as due" : wrong + " answers are not as due");
        if (wrong != 0) {
            System.exit(1);
        }
    }

    private void tell(String text) {
        wrong++;
        if (wrong <= 50) {
            System.out.println(text);
        }
    }
}
