/** Each promise by itself: ordinary inputs, the edges that the document names, wrong inputs. */
public final class PromisesTest {
    private static final int GATE_BOUND = 3186688;
    private static final int[] WRONG_BITS = {-1, 120, 121, Integer.MIN_VALUE, Integer.MAX_VALUE};

    public static void main(String[] args) {
        newObject();
        key();
        bit();
        drop();
        not();
        blur();
        pile();
        gate();
        gateLimits();
        doubledGateLimits();
        choose();
        chooseLimits();
        open();
        bound();
        within();
        line();
        play();
        playEdges();
        clear();
        count();
        countWhenFull();
        Check.same("NONE", -1, TorusGates.NONE);
        Check.finish();
    }

    private static TorusGates withBits(int zeros, int ones) {
        TorusGates x = new TorusGates();
        for (int i = 0; i < zeros; i++) {
            x.bit(false);
        }
        for (int i = 0; i < ones; i++) {
            x.bit(true);
        }
        return x;
    }

    private static void counts(String what, TorusGates x, int bits, int done, int refused, int lines, int greatest) {
        Check.due(what + ": count(0)", bits, () -> x.count(0));
        Check.due(what + ": count(1)", done, () -> x.count(1));
        Check.due(what + ": count(2)", refused, () -> x.count(2));
        Check.due(what + ": count(3)", lines, () -> x.count(3));
        Check.due(what + ": count(4)", greatest, () -> x.count(4));
    }

    private static void newObject() {
        TorusGates x = new TorusGates();
        counts("1 new", x, 0, 0, 0, 0, 0);
        Check.due("1 no bit 0", Check.NO_SUCH, () -> x.bound(0));
        Check.due("1 no line 8", Check.NO_SUCH, () -> x.play(8, 0));
    }

    private static void key() {
        TorusGates x = withBits(2, 1);
        x.line(4, 0, 1);
        x.gate(0, 0, 1);
        x.pile(0, 100);
        x.pile(0, 100);
        x.pile(0, 10);
        Check.due("2 refused gate", Check.STATE, () -> x.gate(4, 0, 0));
        Check.due("2 key(7)", 4, () -> x.key(7));
        counts("2 after key", x, 0, 1, 1, 1, 0);
        Check.due("2 bits went", Check.NO_SUCH, () -> x.open(0));
        Check.due("2 circuit stays", 0, () -> x.play(8, 1));
        Check.due("2 it plays", 1, () -> x.open(0));
        Check.due("2 key(7) again", 1, () -> x.key(7));
        Check.due("2 key with no bits", 0, () -> x.key(7));
        for (int seed : new int[] {0, 1, -1, Integer.MIN_VALUE, Integer.MAX_VALUE}) {
            x.key(seed);
            Check.due("2 bit, seed " + seed, 0, () -> x.bit(true));
            Check.due("2 opens, seed " + seed, 1, () -> x.open(0));
            Check.due("2 bound, seed " + seed, 16, () -> x.bound(0));
        }
    }

    private static void bit() {
        TorusGates x = new TorusGates();
        for (int i = 0; i < 120; i++) {
            boolean v = i % 3 == 0;
            Check.due("3 bit " + i, i, () -> x.bit(v));
        }
        Check.due("3 there are 120", Check.STATE, () -> x.bit(true));
        counts("3 full", x, 120, 0, 0, 0, 16);
        for (int i = 0; i < 120; i++) {
            int a = i;
            Check.due("3 open " + i, i % 3 == 0 ? 1 : 0, () -> x.open(a));
            Check.due("3 bound " + i, 16, () -> x.bound(a));
        }
        x.drop(77);
        x.drop(5);
        Check.due("3 the least first", 5, () -> x.bit(true));
        Check.due("3 then the next", 77, () -> x.bit(false));
        Check.due("3 full again", Check.STATE, () -> x.bit(false));
    }

    private static void drop() {
        TorusGates x = withBits(1, 2);
        Check.due("4 drop(1)", 2, () -> x.drop(1));
        Check.due("4 drop(1) twice", Check.NO_SUCH, () -> x.drop(1));
        Check.due("4 others stay", 1, () -> x.open(2));
        Check.due("4 drop(0)", 1, () -> x.drop(0));
        Check.due("4 drop(2)", 0, () -> x.drop(2));
        for (int a : WRONG_BITS) {
            Check.due("4 drop " + a, Check.NO_SUCH, () -> x.drop(a));
        }
        counts("4 empty", x, 0, 0, 0, 0, 0);
        TorusGates y = withBits(0, 1);
        y.pile(0, 100);
        y.drop(0);
        y.bit(false);
        Check.due("4 nothing is left of a dropped bit's bound", 16, () -> y.bound(0));
        Check.due("4 nor of its value", 0, () -> y.open(0));
    }

    private static void not() {
        TorusGates x = withBits(1, 1);
        Check.due("5 not(0)", 2, () -> x.not(0));
        Check.due("5 is 1", 1, () -> x.open(2));
        Check.due("5 not(1)", 3, () -> x.not(1));
        Check.due("5 is 0", 0, () -> x.open(3));
        Check.due("5 not of not", 4, () -> x.not(2));
        Check.due("5 is 0 again", 0, () -> x.open(4));
        x.pile(1, 100);
        x.drop(0);
        Check.due("5 least number", 0, () -> x.not(1));
        Check.due("5 same bound", 12816, () -> x.bound(0));
        Check.due("5 within", true, () -> x.within(0));
        x.pile(1, 1);
        Check.due("5 a bit of its own", 12816, () -> x.bound(0));
        Check.due("5 the first stays", 1, () -> x.open(1));
        Check.due("5 no gate", 0, () -> x.count(1));
        Check.due("5 none there", Check.NO_SUCH, () -> x.not(50));
        for (int a : WRONG_BITS) {
            Check.due("5 not " + a, Check.NO_SUCH, () -> x.not(a));
        }
        TorusGates full = withBits(60, 60);
        Check.due("5 full", Check.STATE, () -> full.not(0));
        Check.due("5 full, no such", Check.NO_SUCH, () -> full.not(120));
        counts("5 full", full, 120, 0, 0, 0, 16);
    }

    private static void blur() {
        TorusGates x = withBits(1, 1);
        Check.due("6 blur(0, 0)", 16, () -> x.blur(0, 0));
        Check.due("6 blur(0, 1)", 32, () -> x.blur(0, 1));
        Check.due("6 blur(1, 1000)", 16016, () -> x.blur(1, 1000));
        Check.due("6 bound", 16016, () -> x.bound(1));
        Check.due("6 as it was, 0", 0, () -> x.open(0));
        Check.due("6 as it was, 1", 1, () -> x.open(1));
        Check.due("6 within", true, () -> x.within(1));
        Check.due("6 n = -1", Check.ARGUMENT, () -> x.blur(0, -1));
        Check.due("6 n = 1001", Check.ARGUMENT, () -> x.blur(0, 1001));
        Check.due("6 n least", Check.ARGUMENT, () -> x.blur(0, Integer.MIN_VALUE));
        Check.due("6 n greatest", Check.ARGUMENT, () -> x.blur(0, Integer.MAX_VALUE));
        Check.due("6 no such bit first", Check.NO_SUCH, () -> x.blur(2, -1));
        for (int a : WRONG_BITS) {
            Check.due("6 blur " + a, Check.NO_SUCH, () -> x.blur(a, 0));
        }
        Check.due("6 nothing changed", 32, () -> x.bound(0));
        blurLimit();
    }

    /** Bounds in sixteens: 67,108,863 is the last below the limit. */
    private static void blurLimit() {
        TorusGates x = withBits(0, 1);
        raise(x, 0, 67108863 - 1000);
        Check.due("6 to the last below the limit", 1073741808, () -> x.blur(0, 1000));
        Check.due("6 within there", true, () -> x.within(0));
        Check.due("6 one more is too much", Check.STATE, () -> x.blur(0, 1));
        Check.due("6 none is not", 1073741808, () -> x.blur(0, 0));
        Check.due("6 the argument first", Check.ARGUMENT, () -> x.blur(0, 1001));
        Check.due("6 pile(0, 0) there", 1073741808, () -> x.pile(0, 0));
        Check.due("6 pile(0, 100) there", Check.STATE, () -> x.pile(0, 100));
        Check.due("6 unchanged", 1073741808, () -> x.bound(0));
        Check.due("6 count(4)", 1073741808, () -> x.count(4));
    }

    private static void pile() {
        TorusGates x = withBits(1, 1);
        Check.due("7 pile(0, 0)", 16, () -> x.pile(0, 0));
        Check.due("7 pile(0, 1)", 144, () -> x.pile(0, 1));
        Check.due("7 pile(1, 100)", 12816, () -> x.pile(1, 100));
        Check.due("7 as it was, 0", 0, () -> x.open(0));
        Check.due("7 as it was, 1", 1, () -> x.open(1));
        Check.due("7 within", true, () -> x.within(1));
        Check.due("7 k = -1", Check.ARGUMENT, () -> x.pile(0, -1));
        Check.due("7 k = 101", Check.ARGUMENT, () -> x.pile(0, 101));
        Check.due("7 k least", Check.ARGUMENT, () -> x.pile(0, Integer.MIN_VALUE));
        Check.due("7 k greatest", Check.ARGUMENT, () -> x.pile(0, Integer.MAX_VALUE));
        Check.due("7 no such bit first", Check.NO_SUCH, () -> x.pile(2, 101));
        for (int a : WRONG_BITS) {
            Check.due("7 pile " + a, Check.NO_SUCH, () -> x.pile(a, 0));
        }
        Check.due("7 nothing changed", 144, () -> x.bound(0));
        pileLimit();
    }

    private static void pileLimit() {
        TorusGates x = withBits(1, 0);
        raise(x, 0, 7456540);
        Check.due("7 nine times is below the limit", 1073741760, () -> x.pile(0, 1));
        Check.due("7 within there", true, () -> x.within(0));
        x.bit(false);
        raise(x, 1, 7456541);
        Check.due("7 nine times is above the limit", Check.STATE, () -> x.pile(1, 1));
        Check.due("7 unchanged", 7456541 * 16, () -> x.bound(1));
        Check.due("7 still opens", 0, () -> x.open(1));
        x.bit(true);
        raise(x, 2, 67108864 - 1000);
        Check.due("7 blur to the limit itself", Check.STATE, () -> x.blur(2, 1000));
        Check.due("7 blur to just below", 1073741808, () -> x.blur(2, 999));
    }

    /** Brings a new bit's bound to so many sixteens, by its digits to the base 801 (of at most 1000). */
    static void raise(TorusGates x, int a, int sixteens) {
        int high = sixteens / (801 * 801);
        int middle = sixteens / 801 % 801;
        int low = sixteens % 801;
        if (high > 0) {
            x.blur(a, high - 1);
            x.pile(a, 100);
            x.blur(a, middle);
        } else {
            x.blur(a, middle - 1);
        }
        x.pile(a, 100);
        x.blur(a, low);
        Check.due("raised", sixteens * 16, () -> x.bound(a));
    }

    private static void gate() {
        for (int g = 0; g < 8; g++) {
            TorusGates x = withBits(1, 1);
            for (int inputs = 0; inputs < 4; inputs++) {
                int kind = g;
                int first = inputs >> 1;
                int second = inputs & 1;
                String what = "8 gate(" + g + ", " + first + ", " + second + ")";
                Check.due(what, 2 + inputs, () -> x.gate(kind, first, second));
                int made = 2 + inputs;
                Check.due(what + " opens", Check.TABLES[g].charAt(inputs), () -> x.open(made));
                Check.due(what + " bound", GATE_BOUND, () -> x.bound(made));
                Check.due(what + " within", true, () -> x.within(made));
            }
            counts("8 gate " + g, x, 6, 4, 0, 0, GATE_BOUND);
        }
        gateWrongInputs();
    }

    private static void gateWrongInputs() {
        TorusGates x = withBits(1, 1);
        for (int g : new int[] {-1, 8, Integer.MIN_VALUE, Integer.MAX_VALUE}) {
            Check.due("8 gate " + g, Check.NO_SUCH, () -> x.gate(g, 0, 1));
        }
        for (int a : WRONG_BITS) {
            Check.due("8 first " + a, Check.NO_SUCH, () -> x.gate(0, a, 1));
            Check.due("8 second " + a, Check.NO_SUCH, () -> x.gate(0, 0, a));
        }
        Check.due("8 not there", Check.NO_SUCH, () -> x.gate(0, 0, 2));
        counts("8 wrong inputs", x, 2, 0, 0, 0, 16);
        x.drop(0);
        Check.due("8 least number", 0, () -> x.gate(2, 1, 1));
        Check.due("8 of a bit with itself", 0, () -> x.open(0));
        TorusGates full = withBits(60, 60);
        Check.due("8 full", Check.STATE, () -> full.gate(0, 0, 1));
        Check.due("8 full, no such bit", Check.NO_SUCH, () -> full.gate(0, 0, 120));
        Check.due("8 full, no such gate", Check.NO_SUCH, () -> full.gate(8, 0, 1));
        Check.due("8 none done", 0, () -> full.count(1));
        Check.due("8 none made", 120, () -> full.count(0));
    }

    /** x + y in sixteens: 14,680,064 is the least that is refused. */
    private static void gateLimits() {
        for (int v = 0; v < 4; v++) {
            int inputs = v;
            TorusGates x = new TorusGates();
            x.bit(v >> 1 == 1);
            x.bit((v & 1) == 1);
            raise(x, 0, 10000000);
            raise(x, 1, 4680063);
            for (int g = 0; g < 8; g++) {
                int kind = g;
                int made = 2 + g;
                Check.due("8 just below, gate " + g, made, () -> x.gate(kind, 0, 1));
                Check.due("8 just below, gate " + g + " opens", Check.TABLES[g].charAt(inputs), () -> x.open(made));
                Check.due("8 just below, gate " + g + " within", true, () -> x.within(made));
                Check.due("8 just below, gate " + g + " bound", GATE_BOUND, () -> x.bound(made));
            }
            x.blur(1, 1);
            for (int g = 0; g < 8; g++) {
                int kind = g;
                Object want10 = g == 4 || g == 5 ? 10 : Check.STATE;
                Check.due("8 at the limit, gate " + g, want10, () -> dropped(x, x.gate(kind, 0, 1)));
                Check.due("8 at the limit, turned, gate " + g, want10, () -> dropped(x, x.gate(kind, 1, 0)));
            }
            counts("8 at the limit", x, 10, 12, 12, 0, 160000000);
        }
    }

    private static int dropped(TorusGates x, int made) {
        x.drop(made);
        return made;
    }

    /** 2 * (x + y) in sixteens: 48,234,496, that is x + y = 24,117,248, is the least that is refused. */
    private static void doubledGateLimits() {
        for (int v = 0; v < 4; v++) {
            TorusGates x = new TorusGates();
            boolean first = v >> 1 == 1;
            boolean second = (v & 1) == 1;
            x.bit(first);
            x.bit(second);
            raise(x, 0, 20000000);
            raise(x, 1, 4117247);
            Check.due("8 xor just below", 2, () -> x.gate(4, 0, 1));
            Check.due("8 xor opens", first != second ? 1 : 0, () -> x.open(2));
            Check.due("8 xnor just below", 3, () -> x.gate(5, 0, 1));
            Check.due("8 xnor opens", first == second ? 1 : 0, () -> x.open(3));
            Check.due("8 and is refused", Check.STATE, () -> x.gate(0, 0, 1));
            x.blur(1, 1);
            Check.due("8 xor at the limit", Check.STATE, () -> x.gate(4, 0, 1));
            Check.due("8 xnor at the limit", Check.STATE, () -> x.gate(5, 1, 0));
            counts("8 xor", x, 4, 2, 3, 0, 320000000);
        }
        TorusGates y = withBits(0, 1);
        raise(y, 0, 67108000);
        Check.due("8 xor far beyond", Check.STATE, () -> y.gate(4, 0, 0));
        Check.due("8 and far beyond", Check.STATE, () -> y.gate(0, 0, 0));
        Check.due("8 both counted", 2, () -> y.count(2));
    }

    private static void choose() {
        for (int v = 0; v < 8; v++) {
            TorusGates x = new TorusGates();
            boolean c = (v & 4) != 0;
            boolean b = (v & 2) != 0;
            boolean a = (v & 1) != 0;
            x.bit(c);
            x.bit(b);
            x.bit(a);
            Check.due("9 choose " + v, 3, () -> x.choose(0, 1, 2));
            Check.due("9 opens " + v, (c ? b : a) ? 1 : 0, () -> x.open(3));
            Check.due("9 within " + v, true, () -> x.within(3));
            Check.due("9 bound " + v, GATE_BOUND, () -> x.bound(3));
            counts("9 choose", x, 4, 3, 0, 0, GATE_BOUND);
        }
        TorusGates x = withBits(1, 1);
        Check.due("9 one bit thrice", 2, () -> x.choose(1, 1, 1));
        Check.due("9 is 1", 1, () -> x.open(2));
        for (int a : WRONG_BITS) {
            Check.due("9 c " + a, Check.NO_SUCH, () -> x.choose(a, 0, 1));
            Check.due("9 b " + a, Check.NO_SUCH, () -> x.choose(0, a, 1));
            Check.due("9 a " + a, Check.NO_SUCH, () -> x.choose(0, 1, a));
        }
        counts("9 wrong", x, 3, 3, 0, 0, GATE_BOUND);
        TorusGates nearlyFull = withBits(60, 59);
        Check.due("9 room for one is enough", 119, () -> nearlyFull.choose(0, 60, 1));
        Check.due("9 full", Check.STATE, () -> nearlyFull.choose(0, 60, 1));
        Check.due("9 full, no such", Check.NO_SUCH, () -> nearlyFull.choose(0, 60, 120));
        Check.due("9 three done", 3, () -> nearlyFull.count(1));
    }

    private static void chooseLimits() {
        TorusGates x = withBits(0, 3);
        raise(x, 0, 10000000);
        raise(x, 1, 4680063);
        raise(x, 2, 4680063);
        Check.due("9 just below", 3, () -> x.choose(0, 1, 2));
        Check.due("9 just below opens", 1, () -> x.open(3));
        x.blur(1, 1);
        Check.due("9 the gate of c and b is refused", Check.STATE, () -> x.choose(0, 1, 2));
        Check.due("9 the gate of a and c is refused", Check.STATE, () -> x.choose(0, 2, 1));
        Check.due("9 both are refused", Check.STATE, () -> x.choose(0, 1, 1));
        Check.due("9 b and a do not meet", 4, () -> x.choose(3, 0, 1));
        counts("9 limits", x, 5, 6, 3, 0, 160000000);
    }

    private static void open() {
        TorusGates x = withBits(1, 1);
        raise(x, 0, 16777215);
        raise(x, 1, 16777215);
        Check.due("10 just below, 0", 0, () -> x.open(0));
        Check.due("10 just below, 1", 1, () -> x.open(1));
        x.blur(0, 1);
        x.blur(1, 1);
        Check.due("10 at the limit, 0", Check.STATE, () -> x.open(0));
        Check.due("10 at the limit, 1", Check.STATE, () -> x.open(1));
        Check.due("10 no refusal of a gate", 0, () -> x.count(2));
        Check.due("10 not there", Check.NO_SUCH, () -> x.open(2));
        for (int a : WRONG_BITS) {
            Check.due("10 open " + a, Check.NO_SUCH, () -> x.open(a));
        }
    }

    private static void bound() {
        TorusGates x = withBits(1, 1);
        Check.due("11 new", 16, () -> x.bound(0));
        x.gate(4, 0, 1);
        Check.due("11 gate", GATE_BOUND, () -> x.bound(2));
        x.choose(0, 1, 2);
        Check.due("11 choice", GATE_BOUND, () -> x.bound(3));
        Check.due("11 the gate's bits keep theirs", 16, () -> x.bound(1));
        Check.due("11 pile of a gate", GATE_BOUND * 9, () -> x.pile(2, 1));
        Check.due("11 opens", 1, () -> x.open(2));
        Check.due("11 not there", Check.NO_SUCH, () -> x.bound(4));
        for (int a : WRONG_BITS) {
            Check.due("11 bound " + a, Check.NO_SUCH, () -> x.bound(a));
        }
    }

    private static void within() {
        TorusGates x = withBits(1, 1);
        x.gate(2, 0, 1);
        Check.due("12 new", true, () -> x.within(0));
        Check.due("12 gate", true, () -> x.within(2));
        x.pile(2, 40);
        Check.due("12 too far to be opened", Check.STATE, () -> x.open(2));
        Check.due("12 yet within", true, () -> x.within(2));
        Check.due("12 not there", Check.NO_SUCH, () -> x.within(3));
        for (int a : WRONG_BITS) {
            Check.due("12 within " + a, Check.NO_SUCH, () -> x.within(a));
        }
    }

    private static void line() {
        TorusGates x = new TorusGates();
        Check.due("13 no line ahead", Check.NO_SUCH, () -> x.line(0, 8, 0));
        Check.due("13 no line ahead, second", Check.NO_SUCH, () -> x.line(0, 0, 8));
        for (int g : new int[] {-1, 8, Integer.MIN_VALUE, Integer.MAX_VALUE}) {
            Check.due("13 gate " + g, Check.NO_SUCH, () -> x.line(g, 0, 0));
        }
        for (int a : new int[] {-1, 32, Integer.MIN_VALUE, Integer.MAX_VALUE}) {
            Check.due("13 first " + a, Check.NO_SUCH, () -> x.line(0, a, 0));
            Check.due("13 second " + a, Check.NO_SUCH, () -> x.line(0, 0, a));
        }
        for (int i = 0; i < 24; i++) {
            int kind = i % 8;
            int last = 7 + i;
            Check.due("13 line " + i, 8 + i, () -> x.line(kind, last, 7));
            Check.due("13 lines", i + 1, () -> x.count(3));
        }
        Check.due("13 there are 24", Check.STATE, () -> x.line(0, 0, 0));
        Check.due("13 no such gate first", Check.NO_SUCH, () -> x.line(8, 0, 0));
        Check.due("13 no such line first", Check.NO_SUCH, () -> x.line(0, 32, 0));
        Check.due("13 the last one is ahead", Check.STATE, () -> x.line(0, 31, 31));
        counts("13 lines alone", x, 0, 0, 0, 24, 0);
    }

    /** Adds two numbers of four bits: inputs 0 .. 3 and 4 .. 7. */
    private static void play() {
        TorusGates x = new TorusGates();
        int[] sums = new int[5];
        sums[0] = x.line(4, 0, 4);
        int carry = x.line(0, 0, 4);
        for (int i = 1; i < 4; i++) {
            int half = x.line(4, i, 4 + i);
            int both = x.line(0, i, 4 + i);
            sums[i] = x.line(4, half, carry);
            int passed = x.line(0, half, carry);
            carry = x.line(1, both, passed);
        }
        sums[4] = carry;
        int done = 0;
        for (int inputs = 0; inputs < 256; inputs += 5) {
            int sum = (inputs & 15) + (inputs >> 4);
            for (int i = 0; i < 5; i++) {
                int given = inputs;
                int wanted = sums[i];
                Check.due("14 play", 0, () -> x.play(wanted, given));
                Check.due("14 bit " + i + " of the sum for " + inputs, sum >> i & 1, () -> x.open(0));
                Check.due("14 bound", GATE_BOUND, () -> x.bound(0));
                Check.due("14 within", true, () -> x.within(0));
                done += wanted - 7;
                x.drop(0);
            }
        }
        counts("14 played", x, 0, done, 0, 17, 0);
    }

    private static void playEdges() {
        TorusGates x = withBits(60, 59);
        x.line(7, 0, 7);
        x.line(6, 8, 7);
        for (int line : new int[] {-1, 0, 7, 10, 31, 32, Integer.MIN_VALUE, Integer.MAX_VALUE}) {
            Check.due("14 line " + line, Check.NO_SUCH, () -> x.play(line, 0));
            Check.due("14 line " + line + " before inputs", Check.NO_SUCH, () -> x.play(line, 256));
        }
        for (int inputs : new int[] {-1, 256, Integer.MIN_VALUE, Integer.MAX_VALUE}) {
            Check.due("14 inputs " + inputs, Check.ARGUMENT, () -> x.play(8, inputs));
        }
        Check.due("14 room for one is enough", 119, () -> x.play(9, 1));
        Check.due("14 opens", 1, () -> x.open(119));
        Check.due("14 full", Check.STATE, () -> x.play(8, 0));
        Check.due("14 full, line first", Check.NO_SUCH, () -> x.play(10, 0));
        Check.due("14 full, inputs next", Check.ARGUMENT, () -> x.play(8, 256));
        counts("14 full", x, 120, 2, 0, 2, GATE_BOUND);
        x.drop(30);
        Check.due("14 the least number", 30, () -> x.play(8, 128));
        Check.due("14 opens too", 0, () -> x.open(30));
    }

    private static void clear() {
        TorusGates x = withBits(1, 1);
        Check.due("15 none", 0, () -> x.clear());
        x.line(0, 0, 1);
        x.line(1, 8, 2);
        x.play(9, 4);
        Check.due("15 two", 2, () -> x.clear());
        Check.due("15 no line", Check.NO_SUCH, () -> x.play(8, 0));
        Check.due("15 no line ahead", Check.NO_SUCH, () -> x.line(0, 8, 0));
        counts("15 the rest stays", x, 3, 2, 0, 0, GATE_BOUND);
        Check.due("15 from the start", 8, () -> x.line(4, 0, 1));
        Check.due("15 new lines play", 3, () -> x.play(8, 2));
        Check.due("15 new line opens", 1, () -> x.open(3));
        Check.due("15 one", 1, () -> x.clear());
    }

    private static void count() {
        TorusGates x = withBits(1, 1);
        for (int what : new int[] {-1, 5, Integer.MIN_VALUE, Integer.MAX_VALUE}) {
            Check.due("16 count " + what, Check.ARGUMENT, () -> x.count(what));
        }
        x.pile(0, 2);
        counts("16 greatest of two", x, 2, 0, 0, 0, 272);
        x.drop(0);
        counts("16 greatest of what is left", x, 1, 0, 0, 0, 16);
    }

    /** A refused gate counts also with 120 bits there; want of room alone is no refusal. */
    private static void countWhenFull() {
        TorusGates x = withBits(60, 60);
        raise(x, 0, 20000000);
        Check.due("16 full and refused", Check.STATE, () -> x.gate(0, 0, 1));
        Check.due("16 counted", 1, () -> x.count(2));
        Check.due("16 full and choice refused", Check.STATE, () -> x.choose(0, 1, 2));
        Check.due("16 counted as one", 2, () -> x.count(2));
        Check.due("16 full, not refused", Check.STATE, () -> x.gate(0, 1, 2));
        Check.due("16 full, choice not refused", Check.STATE, () -> x.choose(1, 2, 3));
        Check.due("16 not counted", 2, () -> x.count(2));
    }
}
