import java.util.ArrayList;
import java.util.List;

/**
 * A talk with one new object about one sentence of the document: each call beside the answer that is due.
 * It keeps to 512 calls, since nothing is promised after them.
 */
final class Talk {
    static final int NEW_BOUND = 16;
    static final int GATE_BOUND = 3186688;
    /** All bounds are multiples of 16: the last one below 1,073,741,824. */
    static final int GREATEST_BOUND = 1073741808;

    private static final int MOST_CALLS = 512;
    /** Calls that fail are tried on these bits and their neighbours: look() asks everything about them. */
    private static final int EDGE_BITS = 10;

    /** What is said in a talk, so that it can be said to two objects alike. */
    interface Part {
        void tell(Talk t);
    }

    private final String sentence;
    private final TorusGates x;
    private int calls;

    Talk(String sentence) {
        this(sentence, new TorusGates());
    }

    Talk(String sentence, TorusGates x) {
        this.sentence = sentence;
        this.x = x;
    }

    private String ask(Check.Call call) {
        calls++;
        if (calls > MOST_CALLS) {
            throw new AssertionError("this talk has more than 512 calls: " + sentence);
        }
        return Check.answer(call);
    }

    private Talk due(String what, Object due, Check.Call call) {
        Check.same("[" + sentence + "] call " + (calls + 1) + ": " + what, due, ask(call));
        return this;
    }

    Talk key(int seed, Object due) {
        return due("key(" + seed + ")", due, () -> x.key(seed));
    }

    Talk bit(boolean v, Object due) {
        return due("bit(" + v + ")", due, () -> x.bit(v));
    }

    Talk drop(int a, Object due) {
        return due("drop(" + a + ")", due, () -> x.drop(a));
    }

    Talk not(int a, Object due) {
        return due("not(" + a + ")", due, () -> x.not(a));
    }

    Talk blur(int a, int n, Object due) {
        return due("blur(" + a + ", " + n + ")", due, () -> x.blur(a, n));
    }

    Talk pile(int a, int k, Object due) {
        return due("pile(" + a + ", " + k + ")", due, () -> x.pile(a, k));
    }

    Talk gate(int gate, int a, int b, Object due) {
        return due("gate(" + gate + ", " + a + ", " + b + ")", due, () -> x.gate(gate, a, b));
    }

    Talk choose(int c, int b, int a, Object due) {
        return due("choose(" + c + ", " + b + ", " + a + ")", due, () -> x.choose(c, b, a));
    }

    Talk open(int a, Object due) {
        return due("open(" + a + ")", due, () -> x.open(a));
    }

    Talk bound(int a, Object due) {
        return due("bound(" + a + ")", due, () -> x.bound(a));
    }

    Talk within(int a, Object due) {
        return due("within(" + a + ")", due, () -> x.within(a));
    }

    Talk line(int gate, int a, int b, Object due) {
        return due("line(" + gate + ", " + a + ", " + b + ")", due, () -> x.line(gate, a, b));
    }

    Talk play(int line, int inputs, Object due) {
        return due("play(" + line + ", " + inputs + ")", due, () -> x.play(line, inputs));
    }

    Talk clear(Object due) {
        return due("clear()", due, () -> x.clear());
    }

    Talk count(int what, Object due) {
        return due("count(" + what + ")", due, () -> x.count(what));
    }

    /** Bits from number 0 on, so many of 0 and then so many of 1. */
    Talk bits(int zeros, int ones) {
        for (int i = 0; i < zeros + ones; i++) {
            bit(i >= zeros, i);
        }
        return this;
    }

    /** So many lines, each a gate 4 of the line or input ahead of it and of input 0. */
    Talk lines(int many) {
        for (int i = 0; i < many; i++) {
            line(4, 7 + i, 0, 8 + i);
        }
        return this;
    }

    /** Brings a new bit's bound to another multiple of 16, by its digits to the base 801 of the greatest pile. */
    Talk raise(int a, int bound) {
        int sixteens = bound / NEW_BOUND;
        if (sixteens <= 1001) {
            return blur(a, sixteens - 1, bound);
        }
        int before = sixteens / 801 * NEW_BOUND;
        return raise(a, before).pile(a, 100, before * 801).blur(a, sixteens % 801, bound);
    }

    /** A bit of this number that is as it ought to be. */
    Talk is(int a, int value, int bound) {
        return open(a, value).bound(a, bound).within(a, true);
    }

    Talk counts(int bits, int done, int refused, int lines, int greatest) {
        return count(0, bits).count(1, done).count(2, refused).count(3, lines).count(4, greatest);
    }

    /** All that the face tells, but the count of refusals; bits go by it. */
    private List<String> look() {
        List<String> seen = new ArrayList<>();
        for (int what : new int[] {0, 1, 4}) {
            seen.add(ask(() -> x.count(what)));
        }
        for (int i = 0; i < 120; i++) {
            lookAtBit(i, seen);
        }
        String lines = ask(() -> x.count(3));
        seen.add(lines);
        seen.add(ask(() -> x.key(2)));
        int last = 7 + Integer.parseInt(lines);
        int[] inputs = {0, 1, 128, 129, 255};
        for (int i = 0; i < inputs.length; i++) {
            int a = i;
            seen.add(ask(() -> x.play(last, inputs[a])));
            seen.add(ask(() -> x.open(a)));
        }
        return seen;
    }

    private void lookAtBit(int a, List<String> seen) {
        seen.add(ask(() -> x.bound(a)));
        if (a < EDGE_BITS || a >= 120 - EDGE_BITS) {
            seen.add(ask(() -> x.open(a)));
            seen.add(ask(() -> x.within(a)));
        }
    }

    /** Calls that fail are told to one of two objects that are alike otherwise: both must look the same. */
    static void changesNothing(String sentence, Part before, Part failing) {
        Talk plain = new Talk(sentence);
        before.tell(plain);
        Talk tried = new Talk(sentence);
        before.tell(tried);
        failing.tell(tried);
        Check.same("[" + sentence + "] all that the object tells afterwards", plain.look(), tried.look());
    }
}
