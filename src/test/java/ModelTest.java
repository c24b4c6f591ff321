import java.util.ArrayList;
import java.util.List;
import java.util.Random;

/** Plays long runs of calls, always the same ones, on the program and on the model. */
public final class ModelTest {
    private static final int RUNS = 6000;
    private static final int CALLS = 512;
    /** The last calls of a run only look, at the state that it came to. */
    private static final int LAST_LOOKS = 120;
    private static final int FIRST_LOOK = 15;
    private static final int[] WRONG = {
        -1, -2, -3, 20, 21, 30, 31, 100, Integer.MAX_VALUE, Integer.MIN_VALUE,
    };
    /** How often each call is chosen: deeds most, so that the states are rich. */
    private static final int[] OFTEN = {
        14, 1, 5, 3, 2, 3, 3, 16, 6, 16, 5, 9, 8, 6, 2, 7, 6, 3, 2, 2, 3, 2, 4, 2, 2, 4, 2,
    };

    private static final int[] KINDS = {0, 1, 1, 1, 1, 1, 2, 2, 2, 2, 3, 4, 4, 4, 5, 5, 6};
    private static final int[] HOLD_IN = {0, 0, 0, 2, 2, 5};
    private static final int[] PUT_TO = {0, 2, 2, 3, 5};

    private final Due due = new Due();
    private final Random chance;
    private final ThingTrees program = new ThingTrees();
    private final Model model = new Model();
    private final List<String> told = new ArrayList<>();
    private final int wrongOneIn;
    private int made;

    private ModelTest(int seed) {
        chance = new Random(seed);
        wrongOneIn = seed % 3 == 0 ? 8 : 60;
    }

    public static void main(String[] args) {
        int[] done = new int[OFTEN.length];
        int[] refused = new int[40];
        for (int seed = 1; seed <= RUNS; seed++) {
            new ModelTest(seed).play(done, refused);
        }
        demandBreadth(done, refused);
        System.out.println("all answers are as due");
    }

    /** A run that never gets far would prove nothing: every deed and every refusal must occur. */
    private static void demandBreadth(int[] done, int[] refused) {
        Due due = new Due();
        for (int call = 0; call < done.length; call++) {
            due.yes("call " + call + " was answered above 0 often: " + done[call], done[call] > 1000);
        }
        for (int below = 1; below <= 8; below++) {
            due.yes("an answer -" + below + " was given often: " + refused[below],
                    refused[below] > 1000);
        }
        due.yes("routes were barred often: " + refused[10], refused[10] > 1000);
        if (due.isWrong()) {
            due.end();
        }
    }

    private void play(int[] done, int[] refused) {
        int calls = 0;
        int things = 12 + chance.nextInt(10);
        for (; calls < things; calls++) {
            make();
        }
        for (; calls < 3 * things; calls++) {
            place(number(), chance.nextInt(3) == 0 ? 1 + chance.nextInt(3) : 0);
        }
        for (; calls < CALLS - LAST_LOOKS; calls++) {
            if (chance.nextInt(400) == 0) {
                program.clear();
                model.clear();
                made = 0;
                told.add("clear()");
            } else if (chance.nextInt(made < 10 ? 3 : 60) == 0) {
                make();
            } else {
                int call = choose();
                tally(call, any(call), done, refused);
            }
            endIfWrong();
        }
        for (; calls < CALLS; calls++) {
            int call = FIRST_LOOK + chance.nextInt(OFTEN.length - FIRST_LOOK);
            tally(call, any(call), done, refused);
            endIfWrong();
        }
    }

    private static void tally(int call, int answer, int[] done, int[] refused) {
        if (answer > 0) {
            done[call]++;
        } else if (answer < 0) {
            refused[Math.min(-answer, 10)]++;
        }
    }

    private void endIfWrong() {
        if (due.isWrong()) {
            told.forEach(System.out::println);
            due.end();
        }
    }

    private int choose() {
        int sum = 0;
        for (int o : OFTEN) {
            sum += o;
        }
        int at = chance.nextInt(sum);
        int call = 0;
        while (at >= OFTEN[call]) {
            at -= OFTEN[call];
            call++;
        }
        return call;
    }

    private void make() {
        int kind = made == 0 ? 0 : KINDS[chance.nextInt(KINDS.length)];
        if (chance.nextInt(wrongOneIn) == 0) {
            kind = chance.nextBoolean() ? -1 : 7;
        }
        int most = kind == 0 && chance.nextInt(4) > 0 ? 9
                : chance.nextInt(4) == 0 ? chance.nextInt(12) - 1 : 1 + chance.nextInt(5);
        int want = model.thing(kind, most);
        if (want >= 0) {
            made++;
        }
        check("thing(" + kind + ", " + most + ")", program.thing(kind, most), want);
    }

    private int check(String call, int got, int want) {
        told.add(call + " -> " + want);
        due.is(call, got, want);
        return want;
    }

    private int number() {
        if (made == 0 || chance.nextInt(wrongOneIn) == 0) {
            return WRONG[chance.nextInt(WRONG.length)];
        }
        return chance.nextInt(made);
    }

    /** Mostly one of the kind told, so that most calls are about something. */
    private int ofKind(int kind) {
        for (int tries = 0; tries < 30; tries++) {
            int n = number();
            if (model.isOfKind(n, kind) || chance.nextInt(40) == 0) {
                return n;
            }
        }
        return number();
    }

    private int any(int call) {
        boolean on = chance.nextBoolean();
        int a = number();
        int b = number();
        int p = ofKind(4);
        int small = chance.nextInt(wrongOneIn) == 0 ? WRONG[chance.nextInt(WRONG.length)]
                : chance.nextInt(5);
        String ab = "(" + a + ", " + b + ")";
        String pa = "(" + p + ", " + a + ")";
        switch (call) {
            case 0: return place(a, chance.nextInt(3) == 0 ? small : 0);
            case 1: return check("part" + ab, program.part(a, b), model.part(a, b));
            case 2: {
                int x = ofKind(2);
                return check("open(" + x + ", " + on + ")", program.open(x, on), model.open(x, on));
            }
            case 3: {
                int x = ofKind(2);
                return check("clears(" + x + ", " + on + ")",
                        program.clears(x, on), model.clears(x, on));
            }
            case 4: {
                int r = ofKind(0);
                boolean bright = chance.nextInt(3) == 0;
                return check("lit(" + r + ", " + bright + ")",
                        program.lit(r, bright), model.lit(r, bright));
            }
            case 5: {
                boolean bright = chance.nextInt(3) == 0;
                return check("glows(" + a + ", " + bright + ")",
                        program.glows(a, bright), model.glows(a, bright));
            }
            case 6: {
                int s = ofKind(6);
                int r = ofKind(0);
                return check("spread(" + s + ", " + r + ", " + on + ")",
                        program.spread(s, r, on), model.spread(s, r, on));
            }
            case 7: return check("take" + pa, program.take(p, a), model.take(p, a));
            case 8: {
                int t = heldBy(p, a);
                return check("drop(" + p + ", " + t + ")", program.drop(p, t), model.drop(p, t));
            }
            case 9: {
                int t = heldBy(p, a);
                int to = chance.nextInt(10) == 0 ? b : ofKind(PUT_TO[chance.nextInt(PUT_TO.length)]);
                return check("put(" + p + ", " + t + ", " + to + ")",
                        program.put(p, t, to), model.put(p, t, to));
            }
            case 10: {
                int t = heldBy(p, a);
                return check("wear(" + p + ", " + t + ")", program.wear(p, t), model.wear(p, t));
            }
            case 11: {
                int into = chance.nextInt(8) == 0 ? a : ofKind(chance.nextBoolean() ? 2 : 5);
                return check("enter(" + p + ", " + into + ")",
                        program.enter(p, into), model.enter(p, into));
            }
            case 12: return check("leave(" + p + ")", program.leave(p), model.leave(p));
            case 13: {
                int r = chance.nextInt(20) == 0 ? a : ofKind(0);
                return check("go(" + p + ", " + r + ")", program.go(p, r), model.go(p, r));
            }
            case 14: {
                int t = chance.nextInt(8) == 0 ? a : WRONG[chance.nextInt(WRONG.length)];
                return check("lose(" + t + ")", program.lose(t), model.lose(t));
            }
            case 15: return check("touches" + pa, program.touches(p, a), model.touches(p, a));
            case 16: return check("sees" + pa, program.sees(p, a), model.sees(p, a));
            case 17: return check("light(" + p + ")", program.light(p), model.light(p));
            default: return look(call, a, b, small);
        }
    }

    private int place(int a, int way) {
        int holder = way == 1 ? ofKind(3) : way == 2 || way == 3 ? ofKind(4)
                : ofKind(HOLD_IN[chance.nextInt(HOLD_IN.length)]);
        int to = chance.nextInt(20) == 0 ? -1 : holder;
        return check("move(" + a + ", " + to + ", " + way + ")",
                program.move(a, to, way), model.move(a, to, way));
    }

    private int look(int call, int a, int b, int small) {
        int deep = chance.nextInt(20);
        switch (call) {
            case 18: return check("holder(" + a + ")", program.holder(a), model.holder(a));
            case 19: return check("way(" + a + ")", program.way(a), model.way(a));
            case 20: return check("child(" + a + ", " + small + ")",
                    program.child(a, small), model.child(a, small));
            case 21: return check("count(" + a + ")", program.count(a), model.count(a));
            case 22: {
                int i = chance.nextBoolean() ? deep : small;
                return check("walk(" + a + ", " + i + ")", program.walk(a, i), model.walk(a, i));
            }
            case 23: return check("root(" + a + ")", program.root(a), model.root(a));
            case 24: return check("ring(" + a + ", " + b + ")",
                    program.ring(a, b), model.ring(a, b));
            case 25: {
                int i = chance.nextInt(33) - 1;
                return check("row(" + i + ", " + small + ")",
                        program.row(i, small), model.row(i, small));
            }
            default: return check("told(" + small + ")", program.told(small), model.told(small));
        }
    }

    /** Mostly something that p holds, where there is such a thing. */
    private int heldBy(int p, int otherwise) {
        if (chance.nextInt(8) == 0) {
            return otherwise;
        }
        int held = model.child(p, chance.nextInt(3));
        return held >= 0 ? held : otherwise;
    }
}
