/** What count() tells: promise 16, a test for each of its sentences. */
public final class CountTest {
    private static final int FAR = 268435456;

    public static void main(String[] args) {
        countsAre0To4();
        bits();
        gatesDone();
        gatesDoneNotForRefused();
        gatesDoneNotForOtherCalls();
        refused();
        refusedChoiceIsOne();
        refusedWith120();
        refusedNotForWantOfRoom();
        refusedNotForOtherCalls();
        refusedManyTimes();
        lines();
        greatestBound();
        greatestBoundOfTheLastBit();
        greatestBoundOfNone();
        Check.finish();
    }

    private static void countsAre0To4() {
        Talk t = new Talk("16: IllegalArgumentException: none of these").bits(1, 1);
        for (int what : new int[] {-1, 5, 6, -5, 256, Integer.MIN_VALUE, Integer.MAX_VALUE}) {
            t.count(what, Check.ARGUMENT);
        }
        t.counts(2, 0, 0, 0, 16);
    }

    private static void bits() {
        Talk t = new Talk("16: 0 bits").count(0, 0);
        for (int i = 0; i < 120; i++) {
            t.bit(i % 2 == 0, i).count(0, i + 1);
        }
        t.bit(true, Check.STATE).count(0, 120).drop(50, 119).count(0, 119).not(0, 50).count(0, 120);
        t.drop(0, 119).gate(0, 1, 2, 0).count(0, 120).key(2, 120).count(0, 0);
    }

    private static void gatesDone() {
        Talk t = new Talk("16: 1 gates done (three for a choice, one for each line played)").bits(1, 1).count(1, 0);
        int done = 0;
        for (int gate = 0; gate < 8; gate++) {
            t.gate(gate, 0, 1, 2).count(1, ++done).drop(2, 2);
        }
        t.choose(0, 1, 1, 2).count(1, 11).choose(1, 0, 0, 3).count(1, 14).lines(24).count(1, 14);
        t.play(8, 0, 4).count(1, 15).play(9, 0, 5).count(1, 17).play(31, 0, 6).count(1, 41).clear(24).count(1, 41);
        t.key(3, 7).count(1, 41);
    }

    private static void gatesDoneNotForRefused() {
        Talk t = new Talk("16: none for what is refused").bits(1, 2).raise(0, FAR);
        t.gate(0, 0, 1, Check.STATE).choose(0, 1, 2, Check.STATE).choose(1, 0, 2, Check.STATE);
        t.choose(1, 2, 0, Check.STATE).count(1, 0).gate(4, 0, 1, 3).count(1, 1).choose(1, 2, 0, Check.STATE);
        t.count(1, 1).count(2, 5);
    }

    private static void gatesDoneNotForOtherCalls() {
        Talk t = new Talk("16: gates done, not other calls").bits(60, 59).lines(2).not(0, 119).blur(0, 5, 96);
        t.pile(0, 5, 3936).open(0, 0).within(0, true).gate(8, 0, 1, Check.NO_SUCH).gate(0, 0, 120, Check.NO_SUCH);
        t.gate(0, 0, 1, Check.STATE).choose(0, 1, 2, Check.STATE).play(9, 0, Check.STATE).play(9, 256, Check.ARGUMENT);
        t.play(10, 0, Check.NO_SUCH).counts(120, 0, 0, 2, 3936);
    }

    private static void refused() {
        Talk t = new Talk("16: 2 gates and choices refused").bits(1, 2).count(2, 0).raise(0, 400000000);
        for (int gate = 0; gate < 8; gate++) {
            t.gate(gate, 0, 1, Check.STATE).count(2, gate + 1);
        }
        t.gate(0, 1, 2, 3).count(2, 8).choose(0, 1, 2, Check.STATE).count(2, 9).choose(1, 2, 3, 4).count(2, 9);
        t.drop(0, 4).count(2, 9).key(1, 4).count(2, 9).clear(0).count(2, 9);
    }

    private static void refusedChoiceIsOne() {
        Talk t = new Talk("16: a choice is one").bits(1, 2).raise(0, FAR);
        t.choose(0, 1, 2, Check.STATE).count(2, 1).choose(1, 0, 2, Check.STATE).count(2, 2);
        t.choose(1, 2, 0, Check.STATE).count(2, 3).choose(1, 0, 0, Check.STATE).count(2, 4);
        t.choose(0, 0, 0, Check.STATE).count(2, 5).counts(3, 0, 5, 0, FAR);
    }

    private static void refusedWith120() {
        Talk t = new Talk("16: gates and choices refused, also with 120 bits there").bits(60, 60).raise(0, 400000000);
        for (int gate = 0; gate < 8; gate++) {
            t.gate(gate, 0, 1, Check.STATE).gate(gate, 119, 0, Check.STATE).count(2, 2 * gate + 2);
        }
        t.choose(0, 1, 2, Check.STATE).count(2, 17).choose(1, 0, 2, Check.STATE).count(2, 18);
        t.choose(1, 2, 0, Check.STATE).count(2, 19).counts(120, 0, 19, 0, 400000000);
    }

    private static void refusedNotForWantOfRoom() {
        Talk t = new Talk("16: refused is by bounds; 120 bits alone are another thing").bits(60, 60).lines(1);
        for (int gate = 0; gate < 8; gate++) {
            t.gate(gate, 0, 119, Check.STATE);
        }
        t.choose(0, 1, 2, Check.STATE).play(8, 0, Check.STATE).bit(true, Check.STATE).not(0, Check.STATE);
        t.counts(120, 0, 0, 1, 16);
        Talk edge = new Talk("16: with 120 bits there, the last sum that is not refused").bits(60, 60);
        edge.raise(0, 234880992).gate(0, 0, 1, Check.STATE).choose(0, 1, 2, Check.STATE).count(2, 0);
        edge.blur(0, 1, 234881008).gate(0, 0, 1, Check.STATE).count(2, 1).choose(0, 1, 2, Check.STATE).count(2, 2);
        edge.gate(4, 0, 1, Check.STATE).gate(5, 1, 0, Check.STATE).count(2, 2).count(1, 0);
    }

    private static void refusedNotForOtherCalls() {
        Talk t = new Talk("16: gates and choices refused, not other calls").bits(1, 1).raise(0, Talk.GREATEST_BOUND);
        t.open(0, Check.STATE).blur(0, 1, Check.STATE).pile(0, 1, Check.STATE).blur(0, 1001, Check.ARGUMENT);
        t.pile(0, 101, Check.ARGUMENT).gate(8, 0, 0, Check.NO_SUCH).gate(-1, 0, 0, Check.NO_SUCH);
        t.gate(0, 0, 2, Check.NO_SUCH).gate(0, 2, 0, Check.NO_SUCH).choose(0, 0, 2, Check.NO_SUCH);
        t.choose(0, 2, 0, Check.NO_SUCH).choose(2, 0, 0, Check.NO_SUCH).count(5, Check.ARGUMENT);
        t.lines(24).line(0, 0, 0, Check.STATE).play(8, 256, Check.ARGUMENT).play(32, 0, Check.NO_SUCH);
        t.counts(2, 0, 0, 24, Talk.GREATEST_BOUND);
    }

    private static void refusedManyTimes() {
        Talk t = new Talk("16: 2 gates and choices refused, each time").bits(0, 1).raise(0, FAR);
        for (int i = 1; i <= 480; i++) {
            t.gate(i % 4, 0, 0, Check.STATE);
        }
        t.counts(1, 0, 480, 0, FAR).open(0, Check.STATE);
    }

    private static void lines() {
        Talk t = new Talk("16: 3 lines").count(3, 0);
        for (int i = 0; i < 24; i++) {
            t.line(0, 0, 0, 8 + i).count(3, i + 1);
        }
        t.line(0, 0, 0, Check.STATE).count(3, 24).play(8, 0, 0).count(3, 24).key(1, 1).count(3, 24);
        t.clear(24).count(3, 0).line(0, 0, 8, Check.NO_SUCH).count(3, 0).line(0, 0, 0, 8).count(3, 1);
    }

    private static void greatestBound() {
        Talk t = new Talk("16: 4 the greatest bound of all bits").bits(1, 1).count(4, 16).blur(0, 1, 32).count(4, 32);
        t.blur(1, 2, 48).count(4, 48).pile(0, 1, 288).count(4, 288).drop(0, 1).count(4, 48).gate(0, 1, 1, 0);
        t.count(4, Talk.GATE_BOUND).not(1, 2).count(4, Talk.GATE_BOUND).drop(0, 2).count(4, 48);
        t.bit(true, 0).raise(0, Talk.GREATEST_BOUND).count(4, Talk.GREATEST_BOUND).drop(0, 2).count(4, 48);
    }

    private static void greatestBoundOfTheLastBit() {
        Talk t = new Talk("16: 4 the greatest bound of all bits, the first and the last too").bits(60, 60);
        t.blur(119, 1, 32).count(4, 32).blur(0, 2, 48).count(4, 48).blur(118, 3, 64).count(4, 64);
        t.drop(118, 119).count(4, 48).drop(0, 118).count(4, 32).drop(119, 117).count(4, 16);
    }

    private static void greatestBoundOfNone() {
        Talk t = new Talk("16: 4 the greatest bound of all bits (0: none)").count(4, 0).bits(0, 1).count(4, 16);
        t.drop(0, 0).count(4, 0).bits(0, 2).raise(1, FAR).count(4, FAR).key(1, 2).count(4, 0).bit(true, 0);
        t.count(4, 16);
    }
}
