import java.util.Random;

/** Runs of at most 512 calls on new objects, each answer compared with a plain model of the document. */
public final class RandomRunsTest {
    private static final int RUNS = 300;
    private static final int CALLS = 512;
    private static final int BITS = 120;

    public static void main(String[] args) {
        for (int run = 0; run < RUNS; run++) {
            play(run);
        }
        Check.finish();
    }

    private static void play(int run) {
        Random random = new Random(run);
        TorusGates x = new TorusGates();
        PlainModel m = new PlainModel();
        int fill = run % 3 == 0 ? 45 : 12;
        boolean looksAtAll = run % 2 == 0;
        for (int i = 0; i < (looksAtAll ? CALLS - 2 * BITS : CALLS); i++) {
            compare("run " + run + " call " + i, random, fill, x, m);
        }
        for (int i = 0; i < BITS && looksAtAll; i++) {
            int a = i;
            both("run " + run + " at the end, open " + a, () -> m.open(a), () -> x.open(a));
            both("run " + run + " at the end, within " + a, () -> m.within(a), () -> x.within(a));
        }
    }

    private static int someBit(Random r, PlainModel m) {
        if (r.nextInt(30) == 0) {
            return r.nextInt(124) - 2;
        }
        return r.nextInt(Math.max(1, m.reach()));
    }

    private static void compare(String what, Random r, int fill, TorusGates x, PlainModel m) {
        int a = someBit(r, m);
        int b = someBit(r, m);
        int c = someBit(r, m);
        int g = r.nextInt(25) == 0 ? r.nextInt(12) - 2 : r.nextInt(8);
        boolean v = r.nextBoolean();
        int small = r.nextInt(8) == 0 ? r.nextInt(104) - 2 : r.nextInt(14);
        int big = r.nextInt(1010) - 4;
        int place = r.nextInt(10 + m.lines());
        int other = r.nextInt(8 + m.lines());
        int inputs = r.nextInt(20) == 0 ? r.nextInt(600) - 200 : r.nextInt(256);
        int kind = r.nextInt(100 + fill);
        if (kind >= 100) {
            both(what + " bit", () -> m.bit(v), () -> x.bit(v));
        } else if (kind < 5) {
            both(what + " drop", () -> m.drop(a), () -> x.drop(a));
        } else if (kind < 10) {
            both(what + " not", () -> m.not(a), () -> x.not(a));
        } else if (kind < 18) {
            both(what + " blur", () -> m.blur(a, big), () -> x.blur(a, big));
        } else if (kind < 30) {
            both(what + " pile", () -> m.pile(a, small), () -> x.pile(a, small));
        } else if (kind < 50) {
            both(what + " gate", () -> m.gate(g, a, b), () -> x.gate(g, a, b));
        } else if (kind < 56) {
            both(what + " choose", () -> m.choose(c, b, a), () -> x.choose(c, b, a));
        } else if (kind < 66) {
            both(what + " open", () -> m.open(a), () -> x.open(a));
        } else if (kind < 71) {
            both(what + " bound", () -> m.bound(a), () -> x.bound(a));
        } else if (kind < 76) {
            both(what + " within", () -> m.within(a), () -> x.within(a));
        } else if (kind < 83) {
            both(what + " line", () -> m.line(g, place, other), () -> x.line(g, place, other));
        } else if (kind < 89) {
            both(what + " play", () -> m.play(7 + place, inputs), () -> x.play(7 + place, inputs));
        } else if (kind == 89 && r.nextInt(4) == 0) {
            both(what + " clear", () -> m.clear(), () -> x.clear());
        } else if (kind == 90 && r.nextInt(4) == 0) {
            both(what + " key", () -> m.key(), () -> x.key(big * 7919));
        } else {
            int which = r.nextInt(40) == 0 ? r.nextInt(9) - 2 : r.nextInt(5);
            both(what + " count(" + which + ")", () -> m.count(which), () -> x.count(which));
        }
    }

    private static void both(String what, Check.Call model, Check.Call program) {
        Check.due(what, Check.answer(model), program);
    }
}
