/** Gates and choices: what Terms say of them and promises 8 and 9, a test for each sentence. */
public final class GatesTest {
    /** The least sum of two bounds that is refused. */
    private static final int SINGLE_LIMIT = 234881024;
    private static final int DOUBLE_LIMIT = 771751936 / 2;
    private static final int[] NO_GATES = {-1, 8, Integer.MIN_VALUE, Integer.MAX_VALUE};

    public static void main(String[] args) {
        eachGateByItsTable();
        gatesAre0To7();
        gateUpToItsLimit();
        gateOfABitWithItself();
        gateOfWhatComesOfAGate();
        gatesBetweenTheTwoLimits();
        gateFarBeyondItsLimit();
        gateHasItsBound();
        gateLeavesItsBitsAlone();
        gateTakesTheLeastNumber();
        gateWith120();
        choiceByItsTable();
        choiceOfFewerBits();
        choiceUpToItsLimit();
        choiceRefusedByEither();
        choiceOfFarBitsThatDoNotMeet();
        choiceFarBeyondItsLimit();
        choiceTakesTheLeastNumber();
        choiceWith120();
        Check.finish();
    }

    private static int limitOf(int gate) {
        return gate == 4 || gate == 5 ? DOUBLE_LIMIT : SINGLE_LIMIT;
    }

    /** Values 0 .. 3 stand for 0 0, 0 1, 1 0 and 1 1. */
    private static int tableOf(int gate, int values) {
        return Check.TABLES[gate].charAt(values) - '0';
    }

    private static Talk withTwo(String sentence, int values) {
        return new Talk(sentence).bit(values >> 1 == 1, 0).bit((values & 1) == 1, 1);
    }

    private static void eachGateByItsTable() {
        for (int gate = 0; gate < 8; gate++) {
            for (int values = 0; values < 4; values++) {
                Talk t = withTwo("GATES: " + gate, values).gate(gate, 0, 1, 2);
                t.is(2, tableOf(gate, values), Talk.GATE_BOUND).counts(3, 1, 0, 0, Talk.GATE_BOUND);
                int turned = (values & 1) * 2 + (values >> 1);
                t.gate(gate, 1, 0, 3).is(3, tableOf(gate, turned), Talk.GATE_BOUND).count(1, 2);
            }
        }
    }

    private static void gatesAre0To7() {
        Talk t = new Talk("8: NoSuchElementException: there is no such gate").bits(1, 1);
        for (int gate : NO_GATES) {
            t.gate(gate, 0, 1, Check.NO_SUCH).gate(gate, 1, 1, Check.NO_SUCH);
        }
        t.counts(2, 0, 0, 0, 16).gate(0, 0, 1, 2).gate(7, 0, 1, 3).open(2, 0).open(3, 0).count(1, 2);
    }

    /** The limit less 16 is the last sum that is allowed, since all bounds are multiples of 16. */
    private static void gateUpToItsLimit() {
        for (int gate = 0; gate < 8; gate++) {
            int limit = limitOf(gate);
            int[] firsts = {16, limit - 48, limit / 2, limit / 2 - 16, 80000000};
            for (int first : firsts) {
                for (int values = 0; values < 4; values++) {
                    gateUpTo(gate, values, first, limit - 16 - first);
                }
            }
        }
    }

    private static void gateUpTo(int gate, int values, int first, int second) {
        Talk t = withTwo("8: it is refused: the bounds " + first + " and " + second, values);
        t.raise(0, first).raise(1, second).gate(gate, 0, 1, 2).is(2, tableOf(gate, values), Talk.GATE_BOUND);
        t.blur(0, 1, first + 16).gate(gate, 0, 1, Check.STATE).gate(gate, 1, 0, Check.STATE);
        t.counts(3, 1, 2, 0, Math.max(first + 16, Math.max(second, Talk.GATE_BOUND)));
        Talk other = withTwo("8: it is refused: the bounds " + first + " and " + (second + 16), values);
        other.raise(0, first).raise(1, second + 16).gate(gate, 0, 1, Check.STATE).gate(gate, 1, 0, Check.STATE);
        other.counts(2, 0, 2, 0, Math.max(first, second + 16)).bound(0, first).bound(1, second + 16);
    }

    private static void gateOfABitWithItself() {
        for (int gate = 0; gate < 8; gate++) {
            int half = limitOf(gate) / 2;
            for (int value = 0; value < 2; value++) {
                Talk t = new Talk("8: it is refused, of a bit with itself").bit(value == 1, 0);
                t.gate(gate, 0, 0, 1).is(1, tableOf(gate, value * 3), Talk.GATE_BOUND).raise(0, half - 16);
                t.gate(gate, 0, 0, 2).is(2, tableOf(gate, value * 3), Talk.GATE_BOUND);
                t.blur(0, 1, half).gate(gate, 0, 0, Check.STATE).counts(3, 2, 1, 0, half);
            }
        }
    }

    private static void gateOfWhatComesOfAGate() {
        for (int gate = 0; gate < 8; gate++) {
            int rest = limitOf(gate) - Talk.GATE_BOUND;
            Talk t = new Talk("8: it is refused, of what comes of a gate").bits(1, 2).gate(1, 0, 1, 3);
            t.raise(2, rest - 16).gate(gate, 3, 2, 4).is(4, tableOf(gate, 3), Talk.GATE_BOUND);
            t.blur(2, 1, rest).gate(gate, 3, 2, Check.STATE).gate(gate, 2, 3, Check.STATE).counts(5, 2, 2, 0, rest);
            t.gate(gate, 4, 3, 5).is(5, tableOf(gate, tableOf(gate, 3) * 2 + 1), Talk.GATE_BOUND);
        }
    }

    private static void gatesBetweenTheTwoLimits() {
        for (int sum : new int[] {SINGLE_LIMIT, 300000000, DOUBLE_LIMIT - 16}) {
            Talk t = new Talk("a gate 0 .. 3, 6, 7 is REFUSED if .., a gate 4, 5 if ..").bits(1, 1);
            t.raise(0, 20000000).raise(1, sum - 20000000);
            int made = 2;
            for (int gate = 0; gate < 8; gate++) {
                boolean done = gate == 4 || gate == 5;
                t.gate(gate, 0, 1, done ? made : Check.STATE);
                made += done ? 1 : 0;
            }
            t.open(2, 1).open(3, 0).counts(4, 2, 6, 0, sum - 20000000);
        }
    }

    /** Twice the sum of these bounds passes what an int holds. */
    private static void gateFarBeyondItsLimit() {
        for (int bound : new int[] {536870912, 536870928, 805306368, Talk.GREATEST_BOUND}) {
            Talk t = new Talk("8: it is refused, far beyond").bits(1, 1).raise(0, bound).raise(1, bound);
            for (int gate = 0; gate < 8; gate++) {
                t.gate(gate, 0, 1, Check.STATE).gate(gate, 1, 1, Check.STATE);
            }
            t.counts(2, 0, 16, 0, bound);
        }
    }

    private static void gateHasItsBound() {
        for (int gate = 0; gate < 8; gate++) {
            Talk t = new Talk("What comes of a gate has the bound 3,186,688").bits(1, 1);
            t.gate(gate, 0, 1, 2).bound(2, Talk.GATE_BOUND).raise(0, 100000000).raise(1, 100000000);
            t.gate(gate, 0, 1, 3).bound(3, Talk.GATE_BOUND).within(3, true).gate(gate, 2, 3, 4);
            t.bound(4, Talk.GATE_BOUND).within(4, true);
        }
    }

    private static void gateLeavesItsBitsAlone() {
        for (int gate = 0; gate < 8; gate++) {
            Talk t = new Talk("8: What comes of a gate: a bit").bits(1, 1).blur(1, 4, 80).gate(gate, 0, 1, 2);
            t.is(0, 0, 16).is(1, 1, 80).gate(gate, 1, 1, 3).is(1, 1, 80).drop(0, 3).drop(1, 2);
            t.is(2, tableOf(gate, 1), Talk.GATE_BOUND).is(3, tableOf(gate, 3), Talk.GATE_BOUND);
        }
    }

    private static void gateTakesTheLeastNumber() {
        Talk t = new Talk("8: a bit of the least number that is not there").bits(60, 59);
        t.gate(1, 0, 60, 119).is(119, 1, Talk.GATE_BOUND).drop(0, 119).drop(90, 118).drop(7, 117);
        t.gate(2, 60, 61, 0).open(0, 0).gate(2, 60, 61, 7).open(7, 0).gate(3, 1, 2, 90).open(90, 1);
        t.gate(0, 1, 2, Check.STATE).counts(120, 4, 0, 0, Talk.GATE_BOUND);
    }

    private static void gateWith120() {
        Talk t = new Talk("8: IllegalStateException: there are 120").bits(60, 60);
        for (int gate = 0; gate < 8; gate++) {
            t.gate(gate, 0, 119, Check.STATE).gate(gate, 0, 0, Check.STATE);
        }
        t.counts(120, 0, 0, 0, 16).is(0, 0, 16).is(119, 1, 16).drop(119, 119).gate(3, 0, 1, 119);
        t.is(119, 1, Talk.GATE_BOUND).gate(3, 0, 1, Check.STATE).counts(120, 1, 0, 0, Talk.GATE_BOUND);
    }

    private static void choiceByItsTable() {
        for (int v = 0; v < 8; v++) {
            int c = v >> 2;
            int b = v >> 1 & 1;
            int a = v & 1;
            Talk t = new Talk("9: A choice of b, if c is 1, else of a").bit(c == 1, 0).bit(b == 1, 1).bit(a == 1, 2);
            t.choose(0, 1, 2, 3).is(3, c == 1 ? b : a, Talk.GATE_BOUND).choose(0, 2, 1, 4).open(4, c == 1 ? a : b);
            t.is(0, c, 16).is(1, b, 16).is(2, a, 16).counts(5, 6, 0, 0, Talk.GATE_BOUND);
        }
    }

    private static void choiceOfFewerBits() {
        Talk t = new Talk("9: A choice of bits of which some are the same").bits(1, 1);
        t.choose(1, 1, 1, 2).open(2, 1).choose(0, 0, 0, 3).open(3, 0).choose(0, 0, 1, 4).open(4, 1);
        t.choose(1, 0, 1, 5).open(5, 0).choose(1, 1, 0, 6).open(6, 1).choose(0, 1, 0, 7).open(7, 0);
        t.counts(8, 18, 0, 0, Talk.GATE_BOUND);
    }

    /** The two sums of c and b and of a and c, each at the last that is allowed. */
    private static void choiceUpToItsLimit() {
        for (int chooser : new int[] {16, SINGLE_LIMIT / 2, SINGLE_LIMIT - 48}) {
            for (int v = 0; v < 8; v++) {
                int c = v >> 2;
                int b = v >> 1 & 1;
                int a = v & 1;
                int other = SINGLE_LIMIT - 16 - chooser;
                Talk t = new Talk("9: it is refused, if one of these two is: the bound of c " + chooser);
                t.bit(c == 1, 0).bit(b == 1, 1).bit(a == 1, 2).raise(0, chooser).raise(1, other).raise(2, other);
                t.choose(0, 1, 2, 3).is(3, c == 1 ? b : a, Talk.GATE_BOUND).count(1, 3).count(2, 0);
                t.blur(0, 1, chooser + 16).choose(0, 1, 2, Check.STATE).count(0, 4).count(1, 3).count(2, 1);
            }
        }
    }

    private static void choiceRefusedByEither() {
        Talk b = new Talk("9: it is refused, by the gate 0 of c and b").bits(0, 3);
        b.raise(0, 100000000).raise(1, SINGLE_LIMIT - 100000000).choose(0, 1, 2, Check.STATE).count(2, 1);
        b.choose(1, 0, 2, Check.STATE).counts(3, 0, 2, 0, SINGLE_LIMIT - 100000000);
        Talk a = new Talk("9: it is refused, by the gate 6 of a and c").bits(0, 3);
        a.raise(0, 100000000).raise(2, SINGLE_LIMIT - 100000000).choose(0, 1, 2, Check.STATE).count(2, 1);
        a.choose(2, 1, 0, Check.STATE).counts(3, 0, 2, 0, SINGLE_LIMIT - 100000000);
        Talk both = new Talk("9: it is refused, by both").bits(0, 3).raise(0, SINGLE_LIMIT - 16);
        both.choose(0, 1, 2, Check.STATE).counts(3, 0, 1, 0, SINGLE_LIMIT - 16).choose(1, 0, 2, Check.STATE);
        both.choose(1, 2, 0, Check.STATE).count(2, 3).choose(1, 2, 1, 3).open(3, 1).count(1, 3);
    }

    private static void choiceOfFarBitsThatDoNotMeet() {
        int far = SINGLE_LIMIT - 32;
        Talk t = new Talk("9: not refused by b and a, which do not meet").bits(1, 2).raise(1, far).raise(2, far);
        t.choose(0, 1, 2, 3).is(3, 1, Talk.GATE_BOUND).gate(0, 1, 2, Check.STATE).not(0, 4);
        t.choose(4, 1, 2, 5).is(5, 1, Talk.GATE_BOUND).choose(3, 4, 0, 6).counts(7, 9, 1, 0, far);
    }

    private static void choiceFarBeyondItsLimit() {
        Talk t = new Talk("9: it is refused, far beyond").bits(0, 3).raise(0, Talk.GREATEST_BOUND);
        t.raise(1, Talk.GREATEST_BOUND).raise(2, Talk.GREATEST_BOUND).choose(0, 1, 2, Check.STATE);
        t.choose(0, 0, 0, Check.STATE).counts(3, 0, 2, 0, Talk.GREATEST_BOUND);
        Talk between = new Talk("9: it is refused where a gate 4 would not be").bits(0, 3).raise(0, SINGLE_LIMIT);
        between.gate(4, 0, 1, 3).choose(0, 1, 2, Check.STATE).counts(4, 1, 1, 0, SINGLE_LIMIT);
    }

    private static void choiceTakesTheLeastNumber() {
        Talk t = new Talk("9: a bit of the least number that is not there").bits(60, 59);
        t.choose(60, 61, 0, 119).is(119, 1, Talk.GATE_BOUND).drop(0, 119).drop(90, 118).drop(7, 117);
        t.choose(60, 1, 61, 0).open(0, 0).choose(1, 2, 60, 7).open(7, 1).choose(60, 2, 61, 90).open(90, 0);
        t.counts(120, 12, 0, 0, Talk.GATE_BOUND);
    }

    private static void choiceWith120() {
        Talk t = new Talk("9: IllegalStateException: there are 120").bits(60, 60);
        t.choose(0, 1, 2, Check.STATE).choose(119, 118, 0, Check.STATE).choose(5, 5, 5, Check.STATE);
        t.counts(120, 0, 0, 0, 16).is(0, 0, 16).is(119, 1, 16).drop(33, 119);
        t.choose(60, 61, 0, 33).is(33, 1, Talk.GATE_BOUND).choose(60, 61, 0, Check.STATE);
        t.counts(120, 3, 0, 0, Talk.GATE_BOUND);
    }
}
