/** How far bits may be from their places: promises 6, 7 and 10 to 12, a test for each sentence. */
public final class BoundsTest {
    /** All bounds are multiples of 16: the last one that may be opened, and the first that may not. */
    private static final int LAST_OPENED = 268435440;
    private static final int FIRST_CLOSED = 268435456;

    public static void main(String[] args) {
        blurTakes0To1000();
        blurRefusesOtherNumbers();
        blurRaisesBy16ForEach();
        blurLeavesTheBitAsItWas();
        blurUpToTheLimitByOne();
        blurUpToTheLimitBy1000();
        pileTakes0To100();
        pileRefusesOtherNumbers();
        pileRaisesTimes();
        pileLeavesTheBitAsItWas();
        pileUpToTheLimit();
        pileFarBeyondTheLimit();
        openBelowTheLimit();
        openOfWhatComesOfAGate();
        openNothing();
        boundOfEach();
        boundOfNothing();
        withinOfEach();
        withinOfNothing();
        Check.finish();
    }

    private static void blurTakes0To1000() {
        new Talk("6: n is 0 .. 1000").bits(1, 1).blur(0, 0, 16).blur(0, 1, 32).blur(1, 1000, 16016)
            .blur(1, 999, 32000).is(0, 0, 32).is(1, 1, 32000);
    }

    private static void blurRefusesOtherNumbers() {
        Talk t = new Talk("6: IllegalArgumentException: n is not 0 .. 1000").bits(1, 1);
        for (int n : new int[] {-1, 1001, -1000, 67108864, 268435456, Integer.MIN_VALUE, Integer.MAX_VALUE}) {
            t.blur(0, n, Check.ARGUMENT).blur(1, n, Check.ARGUMENT).is(0, 0, 16).is(1, 1, 16);
        }
        t.count(4, 16).count(2, 0);
    }

    private static void blurRaisesBy16ForEach() {
        for (int n : new int[] {0, 1, 2, 15, 16, 17, 500, 1000}) {
            Talk t = new Talk("6: its bound is 16 higher for each").bits(1, 1).blur(0, n, 16 + 16 * n);
            t.is(0, 0, 16 + 16 * n).is(1, 1, 16).blur(0, n, 16 + 32 * n).pile(0, 1, 144 + 288 * n);
            t.blur(0, n, 144 + 304 * n).gate(0, 0, 1, 2).blur(2, n, Talk.GATE_BOUND + 16 * n);
            t.is(2, 0, Talk.GATE_BOUND + 16 * n).count(1, 1);
        }
    }

    private static void blurLeavesTheBitAsItWas() {
        Talk t = new Talk("6: it is as it was").bits(1, 1).gate(2, 0, 1, 2).gate(3, 0, 1, 3).not(0, 4);
        int[] values = {0, 1, 1, 0, 1};
        int[] bounds = {16, 16, Talk.GATE_BOUND, Talk.GATE_BOUND, 16};
        for (int round = 1; round <= 5; round++) {
            for (int a = 0; a < values.length; a++) {
                t.blur(a, 1000, bounds[a] + 16000 * round).is(a, values[a], bounds[a] + 16000 * round);
            }
        }
        Talk far = new Talk("6: it is as it was, up to the last that is opened").bits(1, 1);
        far.raise(0, LAST_OPENED - 16000).blur(0, 1000, LAST_OPENED).is(0, 0, LAST_OPENED);
        far.raise(1, LAST_OPENED - 16000).blur(1, 1000, LAST_OPENED).is(1, 1, LAST_OPENED);
    }

    private static void blurUpToTheLimitByOne() {
        for (int value = 0; value < 2; value++) {
            Talk t = new Talk("6: IllegalStateException: it would be 1,073,741,824 or more, by one row");
            t.bit(value == 1, 0).raise(0, Talk.GREATEST_BOUND - 16).blur(0, 2, Check.STATE);
            t.blur(0, 1, Talk.GREATEST_BOUND).blur(0, 1, Check.STATE).blur(0, 1000, Check.STATE);
            t.blur(0, 0, Talk.GREATEST_BOUND).bound(0, Talk.GREATEST_BOUND).within(0, true);
            t.count(4, Talk.GREATEST_BOUND).count(2, 0);
        }
    }

    private static void blurUpToTheLimitBy1000() {
        Talk t = new Talk("6: IllegalStateException: it would be 1,073,741,824 or more, by many rows").bits(1, 1);
        t.raise(0, Talk.GREATEST_BOUND - 16000).blur(0, 1000, Talk.GREATEST_BOUND).within(0, true);
        t.raise(1, Talk.GREATEST_BOUND - 15984).blur(1, 1000, Check.STATE);
        t.bound(1, Talk.GREATEST_BOUND - 15984).within(1, true);
        t.blur(1, 999, Talk.GREATEST_BOUND).within(1, true);
    }

    private static void pileTakes0To100() {
        new Talk("7: k is 0 .. 100").bits(1, 1).pile(0, 0, 16).pile(0, 1, 144).pile(1, 100, 12816)
            .pile(1, 99, 12816 * 793).is(0, 0, 144).is(1, 1, 12816 * 793);
    }

    private static void pileRefusesOtherNumbers() {
        Talk t = new Talk("7: IllegalArgumentException: k is not 0 .. 100").bits(1, 1);
        for (int k : new int[] {-1, 101, -100, 1 << 29, 1 << 28, -(1 << 29), Integer.MIN_VALUE, Integer.MAX_VALUE}) {
            t.pile(0, k, Check.ARGUMENT).pile(1, k, Check.ARGUMENT).is(0, 0, 16).is(1, 1, 16);
        }
        t.count(4, 16).count(2, 0);
    }

    private static void pileRaisesTimes() {
        for (int k = 0; k <= 100; k++) {
            int times = 8 * k + 1;
            Talk t = new Talk("7: its bound is 8 * k + 1 times what it was").bits(1, 1).pile(0, k, 16 * times);
            t.is(0, 0, 16 * times).is(1, 1, 16).blur(1, 2, 48).pile(1, k, 48 * times).is(1, 1, 48 * times);
        }
        Talk gate = new Talk("7: its bound is 8 * k + 1 times what it was, after a gate").bits(0, 1);
        gate.gate(0, 0, 0, 1).pile(1, 0, Talk.GATE_BOUND).pile(1, 2, Talk.GATE_BOUND * 17);
        gate.is(1, 1, Talk.GATE_BOUND * 17).is(0, 1, 16).count(1, 1);
    }

    private static void pileLeavesTheBitAsItWas() {
        Talk t = new Talk("7: it is as it was").bits(1, 1).gate(2, 0, 1, 2).gate(3, 0, 1, 3).not(0, 4);
        t.pile(0, 100, 12816).is(0, 0, 12816).pile(0, 100, 12816 * 801).is(0, 0, 12816 * 801);
        t.pile(1, 37, 4752).is(1, 1, 4752).pile(4, 63, 8080).is(4, 1, 8080);
        t.pile(2, 10, Talk.GATE_BOUND * 81).is(2, 1, Talk.GATE_BOUND * 81);
        t.pile(3, 10, Talk.GATE_BOUND * 81).is(3, 0, Talk.GATE_BOUND * 81);
        Talk far = new Talk("7: it is as it was, up to the last that is opened").bits(1, 1);
        int ninth = LAST_OPENED / 9 / 16 * 16;
        int least = LAST_OPENED / 801 / 16 * 16;
        far.raise(0, least).pile(0, 100, least * 801).is(0, 0, least * 801);
        far.raise(1, ninth).pile(1, 1, ninth * 9).is(1, 1, ninth * 9);
    }

    /** For each k the greatest bound that may be multiplied, and the next one, which may not. */
    private static void pileUpToTheLimit() {
        for (int k = 1; k <= 100; k++) {
            int times = 8 * k + 1;
            int last = 1073741823 / times / 16 * 16;
            Talk t = new Talk("7: IllegalStateException: it would be 1,073,741,824 or more").bits(1, 1);
            t.raise(0, last).pile(0, k, last * times).bound(0, last * times).within(0, true);
            t.raise(1, last + 16).pile(1, k, Check.STATE).bound(1, last + 16).within(1, true);
            t.pile(1, k - 1, (last + 16) * (times - 8)).within(1, true).count(2, 0);
        }
    }

    /** The product passes what an int holds, for some k so that what is left of it looks small. */
    private static void pileFarBeyondTheLimit() {
        for (int bound : new int[] {LAST_OPENED, FIRST_CLOSED, 536870912, Talk.GREATEST_BOUND}) {
            Talk t = new Talk("7: IllegalStateException: it would be far more").bits(0, 1).raise(0, bound);
            for (int k = 1; k <= 100; k++) {
                t.pile(0, k, Check.STATE);
            }
            t.pile(0, 0, bound).bound(0, bound).within(0, true).count(4, bound);
        }
    }

    private static void openBelowTheLimit() {
        for (int value = 0; value < 2; value++) {
            Talk t = new Talk("10: its bound is too great; Terms: OPENED, if its bound is below 268,435,456");
            t.bit(value == 1, 0).open(0, value).raise(0, LAST_OPENED).open(0, value).not(0, 1).open(1, 1 - value);
            t.blur(0, 1, FIRST_CLOSED).open(0, Check.STATE).open(1, 1 - value);
            t.blur(1, 1, FIRST_CLOSED).open(1, Check.STATE).blur(1, 0, FIRST_CLOSED).open(1, Check.STATE);
            t.bit(value == 1, 2).raise(2, Talk.GREATEST_BOUND).open(2, Check.STATE).count(2, 0).count(0, 3);
        }
    }

    /** 3,186,688 and 7,958 times 16, 81 times over, and 9 times 16: 268,435,440. */
    private static void openOfWhatComesOfAGate() {
        for (int gate = 0; gate < 8; gate++) {
            Talk t = new Talk("10: its bound is too great, of what comes of a gate").bits(1, 1).gate(gate, 0, 1, 2);
            int value = Check.TABLES[gate].charAt(1) - '0';
            for (int i = 1; i <= 7; i++) {
                t.blur(2, 1000, Talk.GATE_BOUND + 16000 * i);
            }
            t.blur(2, 958, Talk.GATE_BOUND + 127328).pile(2, 10, LAST_OPENED - 144).blur(2, 9, LAST_OPENED);
            t.is(2, value, LAST_OPENED).blur(2, 1, FIRST_CLOSED).open(2, Check.STATE).within(2, true);
        }
    }

    private static void openNothing() {
        Talk t = new Talk("10: NoSuchElementException").open(0, Check.NO_SUCH).bits(1, 1).open(2, Check.NO_SUCH);
        t.raise(0, FIRST_CLOSED).open(0, Check.STATE).drop(0, 1).open(0, Check.NO_SUCH).open(1, 1);
    }

    private static void boundOfEach() {
        Talk t = new Talk("11: A bit's bound").bits(1, 1).bound(0, 16).bound(1, 16).line(0, 0, 1, 8);
        t.gate(4, 0, 1, 2).bound(2, Talk.GATE_BOUND).choose(0, 1, 2, 3).bound(3, Talk.GATE_BOUND);
        t.play(8, 3, 4).bound(4, Talk.GATE_BOUND).not(0, 5).bound(5, 16).not(2, 6).bound(6, Talk.GATE_BOUND);
        t.blur(0, 2, 48).bound(0, 48).pile(0, 1, 432).bound(0, 432).bound(1, 16).bound(5, 16);
        t.raise(1, Talk.GREATEST_BOUND).bound(1, Talk.GREATEST_BOUND).bound(0, 432).bound(2, Talk.GATE_BOUND);
    }

    private static void boundOfNothing() {
        new Talk("11: NoSuchElementException").bound(0, Check.NO_SUCH).bits(1, 1).bound(2, Check.NO_SUCH)
            .drop(0, 1).bound(0, Check.NO_SUCH).bound(1, 16).key(1, 1).bound(1, Check.NO_SUCH);
    }

    private static void withinOfEach() {
        Talk t = new Talk("12: Whether a bit's row lies within its bound of the place where it ought to be");
        t.bits(1, 1).line(0, 0, 1, 8).gate(2, 0, 1, 2).choose(2, 1, 0, 3).play(8, 3, 4).not(0, 5).not(4, 6);
        for (int a = 0; a < 7; a++) {
            t.within(a, true);
        }
        t.blur(0, 1000, 16016).within(0, true).pile(0, 100, 16016 * 801).within(0, true);
        t.pile(2, 41, Talk.GATE_BOUND * 329).open(2, Check.STATE).within(2, true);
        t.not(2, 7).open(7, Check.STATE).within(7, true).raise(1, Talk.GREATEST_BOUND).within(1, true);
    }

    private static void withinOfNothing() {
        new Talk("12: NoSuchElementException").within(0, Check.NO_SUCH).bits(1, 1).within(2, Check.NO_SUCH)
            .drop(0, 1).within(0, Check.NO_SUCH).within(1, true).key(1, 1).within(1, Check.NO_SUCH);
    }
}
