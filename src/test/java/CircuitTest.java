/** Circuits: what Terms say of them and promises 13 to 15, a test for each sentence. */
public final class CircuitTest {
    private static final int[] FAR_OUT = {-1, 32, Integer.MIN_VALUE, Integer.MAX_VALUE};

    public static void main(String[] args) {
        lineOfEachGate();
        lineOfEachInput();
        lineOfLinesAheadAlone();
        lineOfNothing();
        lineTellsItsNumber();
        lineWith24();
        playOfNoLine();
        playOfEachLine();
        playTakes0To255();
        playRefusesOtherInputs();
        playHasInputKFromBitK();
        playWorksLinesInOrder();
        playWorksNoLineBehind();
        playWorksOutASum();
        playTakesTheLeastNumber();
        playWith120();
        playHasAGatesBound();
        clearTellsHowMany();
        clearLeavesNoLines();
        clearLeavesTheRest();
        mostCalls();
        Check.finish();
    }

    private static void lineOfEachGate() {
        for (int gate = 0; gate < 8; gate++) {
            Talk t = new Talk("13: a line of the gate " + gate).line(gate, 3, 5, 8).line(gate, 5, 3, 9);
            for (int values = 0; values < 4; values++) {
                int first = values >> 1;
                int second = values & 1;
                int inputs = first << 3 | second << 5;
                t.play(8, inputs, 0).is(0, Check.TABLES[gate].charAt(values) - '0', Talk.GATE_BOUND).drop(0, 0);
                t.play(9, inputs, 0).open(0, Check.TABLES[gate].charAt(second * 2 + first) - '0').drop(0, 0);
            }
        }
        Talk none = new Talk("13: NoSuchElementException: gate");
        for (int gate : new int[] {-1, 8, Integer.MIN_VALUE, Integer.MAX_VALUE}) {
            none.line(gate, 0, 1, Check.NO_SUCH).count(3, 0);
        }
        none.line(7, 0, 1, 8).line(0, 0, 1, 9);
    }

    private static void lineOfEachInput() {
        for (int k = 0; k < 8; k++) {
            Talk t = new Talk("13: INPUTS 0 .. 7: " + k).line(0, k, k, 8).line(1, 8, k, 9).line(6, k, 8, 10);
            t.play(9, 1 << k, 0).open(0, 1).play(9, 255 - (1 << k), 1).open(1, 0).play(10, 255, 2).open(2, 0);
        }
    }

    private static void lineOfLinesAheadAlone() {
        Talk t = new Talk("13: a or b is no input and no line ahead");
        for (int i = 0; i < 24; i++) {
            int own = 8 + i;
            t.line(0, own, 0, Check.NO_SUCH).line(0, 0, own, Check.NO_SUCH).line(0, own, own, Check.NO_SUCH);
            t.line(0, own + 1, 0, Check.NO_SUCH).count(3, i);
            t.line(i % 8, own - 1, own - 1, own);
        }
        t.line(0, 31, 31, Check.STATE).line(0, 32, 31, Check.NO_SUCH).line(0, 31, 32, Check.NO_SUCH).count(3, 24);
    }

    private static void lineOfNothing() {
        Talk none = new Talk("13: a or b is no input, with no lines");
        Talk full = new Talk("13: a or b is no input and no line, with 24 lines").lines(24);
        for (int a : FAR_OUT) {
            none.line(0, a, 0, Check.NO_SUCH).line(0, 7, a, Check.NO_SUCH).line(0, a, a, Check.NO_SUCH);
            full.line(0, a, 0, Check.NO_SUCH).line(0, 7, a, Check.NO_SUCH).line(0, a, a, Check.NO_SUCH);
        }
        none.line(0, 8, 0, Check.NO_SUCH).line(0, 0, 8, Check.NO_SUCH).count(3, 0).line(0, 7, 0, 8);
        full.count(3, 24).play(31, 128, 0).open(0, 1);
    }

    private static void lineTellsItsNumber() {
        Talk t = new Talk("13: A line behind the others: its number; LINES 8, 9, ..");
        for (int i = 0; i < 24; i++) {
            t.line(i % 8, i % 8, (i + 3) % 8, 8 + i).count(3, i + 1);
        }
        t.counts(0, 0, 0, 24, 0).key(1, 0).count(3, 24);
    }

    private static void lineWith24() {
        Talk t = new Talk("13: IllegalStateException: there are 24").lines(23).line(0, 0, 7, 31);
        t.line(0, 0, 0, Check.STATE).line(7, 7, 31, Check.STATE).counts(0, 0, 0, 24, 0);
        t.play(31, 128, 0).open(0, 0).play(31, 129, 1).open(1, 1).clear(24).lines(24).line(0, 0, 0, Check.STATE);
    }

    private static void playOfNoLine() {
        Talk none = new Talk("14: NoSuchElementException: line, with no lines");
        Talk one = new Talk("14: NoSuchElementException: line, with one").lines(1);
        Talk full = new Talk("14: NoSuchElementException: line, with 24").lines(24);
        for (int line : new int[] {-1, 0, 1, 7, 32, 33, Integer.MIN_VALUE, Integer.MAX_VALUE}) {
            none.play(line, 0, Check.NO_SUCH).play(line, 255, Check.NO_SUCH);
            one.play(line, 0, Check.NO_SUCH).play(line, 255, Check.NO_SUCH);
            full.play(line, 0, Check.NO_SUCH).play(line, 255, Check.NO_SUCH);
        }
        none.play(8, 0, Check.NO_SUCH).counts(0, 0, 0, 0, 0);
        one.play(9, 0, Check.NO_SUCH).play(31, 0, Check.NO_SUCH).counts(0, 0, 0, 1, 0).play(8, 0, 0);
        full.counts(0, 0, 0, 24, 0).play(31, 0, 0);
    }

    private static void playOfEachLine() {
        Talk t = new Talk("14: Plays the circuit up to a line: that line's bit").lines(24);
        int done = 0;
        for (int line = 8; line < 32; line++) {
            done += line - 7;
            t.play(line, 1, line - 8).is(line - 8, line % 2 == 0 ? 1 : 0, Talk.GATE_BOUND).count(1, done);
            t.play(line + 1, 0, line < 31 ? line - 7 : Check.NO_SUCH);
            if (line < 31) {
                t.open(line - 7, 0).drop(line - 7, line - 7);
                done += line - 6;
            }
        }
    }

    private static void playTakes0To255() {
        Talk t = new Talk("14: for a number 0 .. 255").line(0, 0, 0, 8).line(1, 7, 7, 9);
        t.play(8, 0, 0).open(0, 0).play(8, 255, 1).open(1, 1).play(9, 0, 2).open(2, 0).play(9, 255, 3).open(3, 1);
        t.play(8, 1, 4).open(4, 1).play(8, 254, 5).open(5, 0).play(9, 127, 6).open(6, 0).play(9, 128, 7).open(7, 1);
        t.count(1, 12);
    }

    private static void playRefusesOtherInputs() {
        Talk t = new Talk("14: IllegalArgumentException: inputs is not 0 .. 255").lines(2);
        for (int inputs : new int[] {-1, 256, -256, 257, 511, 65536, Integer.MIN_VALUE, Integer.MAX_VALUE}) {
            t.play(8, inputs, Check.ARGUMENT).play(9, inputs, Check.ARGUMENT);
        }
        t.counts(0, 0, 0, 2, 0);
    }

    private static void playHasInputKFromBitK() {
        for (int k = 0; k < 8; k++) {
            Talk t = new Talk("input k is a new bit, bit k of the number: " + k).line(1, k, k, 8).line(3, k, k, 9);
            for (int bit = 0; bit < 8; bit++) {
                int is = bit == k ? 1 : 0;
                t.play(8, 1 << bit, 0).open(0, is).play(8, 255 - (1 << bit), 1).open(1, 1 - is);
                t.play(9, 1 << bit, 2).open(2, 1 - is).drop(0, 2).drop(1, 1).drop(2, 0);
            }
        }
    }

    /** Each line but the first leans on the line ahead of it, and the last ones on lines far ahead. */
    private static void playWorksLinesInOrder() {
        Talk t = new Talk("all lines up to that one are worked out, in order");
        t.line(0, 0, 1, 8).line(2, 8, 8, 9).line(6, 9, 0, 10).line(1, 10, 8, 11).line(5, 11, 9, 12).line(7, 12, 8, 13);
        int[][] due = {{0, 1, 1, 1, 1, 1}, {0, 1, 0, 0, 0, 1}, {0, 1, 1, 1, 1, 1}, {1, 0, 0, 1, 0, 0}};
        int done = 0;
        for (int inputs = 0; inputs < 4; inputs++) {
            for (int line = 8; line < 14; line++) {
                done += line - 7;
                t.play(line, inputs, 0).is(0, due[inputs][line - 8], Talk.GATE_BOUND).count(1, done).drop(0, 0);
            }
        }
        t.counts(0, done, 0, 6, 0);
    }

    private static void playWorksNoLineBehind() {
        Talk t = new Talk("To PLAY it up to a line: one gate for each line up to it").lines(24);
        t.play(8, 3, 0).count(1, 1).play(31, 3, 1).count(1, 25).play(30, 3, 2).count(1, 48).play(8, 3, 3).count(1, 49);
        t.counts(4, 49, 0, 24, Talk.GATE_BOUND);
    }

    /** Adds two numbers of four bits, which are the inputs 0 .. 3 and 4 .. 7. */
    private static void playWorksOutASum() {
        for (int inputs = 0; inputs < 256; inputs += 5) {
            Talk t = new Talk("14: a circuit that adds, for " + inputs);
            t.line(4, 0, 4, 8).line(0, 0, 4, 9);
            int[] sums = {8, 0, 0, 0, 24};
            int carry = 9;
            for (int i = 1; i < 4; i++) {
                int half = carry + 1;
                t.line(4, i, 4 + i, half).line(0, i, 4 + i, half + 1).line(4, half, carry, half + 2);
                t.line(0, half, carry, half + 3).line(1, half + 1, half + 3, half + 4);
                sums[i] = half + 2;
                carry = half + 4;
            }
            int sum = (inputs & 15) + (inputs >> 4);
            for (int i = 0; i < 5; i++) {
                t.play(sums[i], inputs, i).is(i, sum >> i & 1, Talk.GATE_BOUND);
            }
        }
    }

    private static void playTakesTheLeastNumber() {
        Talk t = new Talk("14: that line's bit, the least number that is not there").bits(60, 59).lines(2);
        t.play(9, 128, 119).is(119, 1, Talk.GATE_BOUND).drop(0, 119).drop(7, 118).drop(90, 117);
        t.play(8, 0, 0).open(0, 0).play(8, 1, 7).open(7, 1).play(9, 0, 90).open(90, 0).count(0, 120);
    }

    private static void playWith120() {
        Talk t = new Talk("14: IllegalStateException: there are 120").bits(60, 60).lines(24);
        t.play(8, 0, Check.STATE).play(31, 255, Check.STATE).counts(120, 0, 0, 24, 16).is(0, 0, 16).is(119, 1, 16);
        t.drop(119, 119).play(31, 128, 119).is(119, 1, Talk.GATE_BOUND).play(31, 128, Check.STATE);
        t.counts(120, 24, 0, 24, Talk.GATE_BOUND);
    }

    private static void playHasAGatesBound() {
        Talk t = new Talk("14: what comes of a gate has the bound 3,186,688, of a line too").lines(3);
        t.play(8, 1, 0).is(0, 1, Talk.GATE_BOUND).play(10, 1, 1).is(1, 1, Talk.GATE_BOUND);
        t.gate(0, 0, 1, 2).is(2, 1, Talk.GATE_BOUND).not(2, 3).is(3, 0, Talk.GATE_BOUND);
        t.blur(0, 1, Talk.GATE_BOUND + 16).is(1, 1, Talk.GATE_BOUND).play(8, 1, 4).is(4, 1, Talk.GATE_BOUND);
    }

    private static void clearTellsHowMany() {
        new Talk("15: No lines: how many there were").clear(0).lines(1).clear(1).clear(0).lines(23).clear(23)
            .lines(24).clear(24).clear(0).count(3, 0);
    }

    private static void clearLeavesNoLines() {
        Talk t = new Talk("15: No lines").lines(24).clear(24).count(3, 0);
        t.play(8, 0, Check.NO_SUCH).play(31, 0, Check.NO_SUCH);
        t.line(0, 8, 0, Check.NO_SUCH).line(0, 0, 8, Check.NO_SUCH);
        t.line(0, 0, 1, 8).play(9, 0, Check.NO_SUCH).play(8, 3, 0).open(0, 1).play(8, 2, 1).open(1, 0).count(3, 1);
        t.line(4, 8, 9, Check.NO_SUCH).line(4, 8, 8, 9).play(9, 3, 2).open(2, 0);
    }

    private static void clearLeavesTheRest() {
        Talk t = new Talk("15: clear() takes the lines alone").bits(1, 1).lines(2).play(9, 128, 2).raise(0, 268435456);
        t.gate(0, 0, 1, Check.STATE).counts(3, 2, 1, 2, 268435456).clear(2).counts(3, 2, 1, 0, 268435456);
        t.bound(0, 268435456).within(0, true).is(1, 1, 16).is(2, 1, Talk.GATE_BOUND).bit(true, 3);
    }

    /** The dearest of all runs: 24 lines, then all of them with each second call. */
    private static void mostCalls() {
        Talk t = new Talk("An object is used for at most 512 calls").lines(24);
        for (int i = 0; i < 162; i++) {
            int inputs = i * 37 % 256;
            t.play(31, inputs, 0).open(0, inputs >> 7).drop(0, 0);
        }
        t.count(1, 162 * 24).count(0, 0);
    }
}
