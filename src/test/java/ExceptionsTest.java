/**
 * "EXCEPTIONS: NoSuchElementException .. IllegalArgumentException, then IllegalStateException, as told. Such a
 * call changes nothing, but what count() tells of refusals": a test for each order and for each call that throws.
 */
public final class ExceptionsTest {
    private static final int FAR = 400000000;
    private static final String ORDER = "the order of exceptions: ";
    private static final String NOTHING = "Such a call changes nothing: ";

    public static void main(String[] args) {
        orderOfNot();
        orderOfBlur();
        orderOfPile();
        orderOfGate();
        orderOfChoose();
        orderOfOpen();
        orderOfLine();
        orderOfPlay();
        nothingWithNoBits();
        nothingWithSomeBits();
        nothingOfFarBits();
        nothingButRefusals();
        nothingWith120();
        nothingOfRefusalsWith120();
        nothingWithNoLines();
        nothingWith24Lines();
        nothingOfPlayWith120();
        Check.finish();
    }

    private static void orderOfNot() {
        Talk t = new Talk(ORDER + "not").bits(60, 60);
        t.not(120, Check.NO_SUCH).not(-1, Check.NO_SUCH).not(0, Check.STATE);
    }

    private static void orderOfBlur() {
        Talk t = new Talk(ORDER + "blur").blur(0, -1, Check.NO_SUCH).blur(0, 1001, Check.NO_SUCH).bits(0, 1);
        t.blur(1, -1, Check.NO_SUCH).blur(1, 1001, Check.NO_SUCH).blur(-1, 1001, Check.NO_SUCH);
        t.raise(0, Talk.GREATEST_BOUND).blur(0, 1001, Check.ARGUMENT).blur(0, -1, Check.ARGUMENT);
        t.blur(0, Integer.MAX_VALUE, Check.ARGUMENT).blur(0, 1000, Check.STATE).blur(1, 1000, Check.NO_SUCH);
    }

    private static void orderOfPile() {
        Talk t = new Talk(ORDER + "pile").pile(0, -1, Check.NO_SUCH).pile(0, 101, Check.NO_SUCH).bits(0, 1);
        t.pile(1, -1, Check.NO_SUCH).pile(1, 101, Check.NO_SUCH).pile(120, 101, Check.NO_SUCH);
        t.raise(0, Talk.GREATEST_BOUND).pile(0, 101, Check.ARGUMENT).pile(0, -1, Check.ARGUMENT);
        t.pile(0, Integer.MAX_VALUE, Check.ARGUMENT).pile(0, 100, Check.STATE).pile(1, 100, Check.NO_SUCH);
    }

    /** Of calls that would also be refused, or find no room. */
    private static void orderOfGate() {
        Talk few = new Talk(ORDER + "gate, refused").bits(0, 2).raise(0, FAR);
        Talk full = new Talk(ORDER + "gate, refused and 120 bits").bits(60, 60).raise(0, FAR);
        for (Talk t : new Talk[] {few, full}) {
            t.gate(8, 0, 0, Check.NO_SUCH).gate(-1, 0, 0, Check.NO_SUCH).gate(8, 120, -1, Check.NO_SUCH);
            t.gate(0, 0, 120, Check.NO_SUCH).gate(0, 120, 0, Check.NO_SUCH).gate(5, -1, -1, Check.NO_SUCH);
            t.count(2, 0).gate(0, 0, 1, Check.STATE).count(2, 1);
        }
        full.gate(8, 1, 1, Check.NO_SUCH).gate(0, 1, 120, Check.NO_SUCH).gate(0, 1, 1, Check.STATE).count(2, 1);
    }

    private static void orderOfChoose() {
        Talk few = new Talk(ORDER + "choose, refused").bits(0, 3).raise(0, FAR);
        Talk full = new Talk(ORDER + "choose, refused and 120 bits").bits(60, 60).raise(0, FAR);
        for (Talk t : new Talk[] {few, full}) {
            t.choose(120, 0, 0, Check.NO_SUCH).choose(0, 120, 0, Check.NO_SUCH).choose(0, 0, 120, Check.NO_SUCH);
            t.choose(0, 1, -1, Check.NO_SUCH).choose(0, -1, 1, Check.NO_SUCH).choose(-1, 0, 1, Check.NO_SUCH);
            t.count(2, 0).choose(0, 1, 2, Check.STATE).count(2, 1);
        }
        full.choose(1, 2, 120, Check.NO_SUCH).choose(1, 2, 3, Check.STATE).count(2, 1);
    }

    private static void orderOfOpen() {
        Talk t = new Talk(ORDER + "open").bits(0, 2).raise(0, FAR).open(0, Check.STATE).open(2, Check.NO_SUCH);
        t.drop(0, 1).open(0, Check.NO_SUCH);
    }

    private static void orderOfLine() {
        Talk t = new Talk(ORDER + "line").lines(24).line(0, 0, 0, Check.STATE);
        t.line(8, 0, 0, Check.NO_SUCH).line(-1, 0, 0, Check.NO_SUCH).line(0, 32, 0, Check.NO_SUCH);
        t.line(0, 0, 32, Check.NO_SUCH).line(0, -1, 0, Check.NO_SUCH).line(0, 0, -1, Check.NO_SUCH);
        t.line(8, 32, 32, Check.NO_SUCH).line(0, 31, 31, Check.STATE).line(7, 7, 0, Check.STATE);
    }

    private static void orderOfPlay() {
        Talk few = new Talk(ORDER + "play").lines(1).bits(0, 1);
        Talk full = new Talk(ORDER + "play, with 120 bits").lines(1).bits(60, 60);
        for (Talk t : new Talk[] {few, full}) {
            t.play(9, 256, Check.NO_SUCH).play(7, -1, Check.NO_SUCH).play(-1, 256, Check.NO_SUCH);
            t.play(9, 0, Check.NO_SUCH).play(7, 0, Check.NO_SUCH).play(8, 256, Check.ARGUMENT);
            t.play(8, -1, Check.ARGUMENT).play(8, Integer.MIN_VALUE, Check.ARGUMENT);
        }
        full.play(8, 255, Check.STATE).clear(1);
        full.play(8, 256, Check.NO_SUCH).play(8, 0, Check.NO_SUCH);
    }

    private static void nothingWithNoBits() {
        Talk.changesNothing(NOTHING + "no bits", t -> t.lines(1), t -> {
            t.drop(0, Check.NO_SUCH).not(0, Check.NO_SUCH).blur(0, 1, Check.NO_SUCH).pile(0, 1, Check.NO_SUCH);
            t.gate(0, 0, 0, Check.NO_SUCH).choose(0, 0, 0, Check.NO_SUCH).open(0, Check.NO_SUCH);
            t.bound(0, Check.NO_SUCH).within(0, Check.NO_SUCH).count(5, Check.ARGUMENT).count(2, 0);
        });
    }

    private static void nothingWithSomeBits() {
        Talk.changesNothing(NOTHING + "some bits", t -> t.bits(2, 3).gate(1, 0, 4, 5).drop(1, 5), t -> {
            t.drop(1, Check.NO_SUCH).drop(6, Check.NO_SUCH).drop(-1, Check.NO_SUCH).drop(120, Check.NO_SUCH);
            t.not(1, Check.NO_SUCH).not(6, Check.NO_SUCH).blur(0, 1001, Check.ARGUMENT).blur(4, -1, Check.ARGUMENT);
            t.blur(1, 1, Check.NO_SUCH).pile(0, 101, Check.ARGUMENT).pile(4, -1, Check.ARGUMENT);
            t.pile(1, 1, Check.NO_SUCH).gate(8, 0, 2, Check.NO_SUCH).gate(0, 0, 1, Check.NO_SUCH);
            t.gate(0, 1, 0, Check.NO_SUCH).choose(1, 0, 2, Check.NO_SUCH).choose(0, 1, 2, Check.NO_SUCH);
            t.choose(0, 2, 1, Check.NO_SUCH).count(-1, Check.ARGUMENT).count(2, 0);
        });
    }

    private static void nothingOfFarBits() {
        Talk.Part far = t -> t.bits(1, 1).raise(0, Talk.GREATEST_BOUND).raise(1, 268435456);
        Talk.changesNothing(NOTHING + "bits too far to be raised or opened", far, t -> {
            t.blur(0, 1, Check.STATE).blur(0, 1000, Check.STATE).blur(0, 1001, Check.ARGUMENT);
            t.pile(0, 1, Check.STATE).pile(0, 100, Check.STATE).pile(1, 1, Check.STATE).pile(1, 100, Check.STATE);
            t.open(0, Check.STATE).open(1, Check.STATE).count(2, 0);
        });
    }

    private static void nothingButRefusals() {
        Talk.changesNothing(NOTHING + "refused", t -> t.bits(2, 2).drop(1, 3).raise(0, FAR).lines(1), t -> {
            for (int gate = 0; gate < 8; gate++) {
                t.gate(gate, 0, 2, Check.STATE).gate(gate, 3, 0, Check.STATE);
            }
            t.choose(0, 2, 3, Check.STATE).choose(2, 0, 3, Check.STATE).choose(2, 3, 0, Check.STATE).count(2, 19);
        });
    }

    private static void nothingWith120() {
        Talk.changesNothing(NOTHING + "120 bits", t -> t.bits(60, 60).lines(1), t -> {
            t.bit(true, Check.STATE).bit(false, Check.STATE).not(0, Check.STATE).not(119, Check.STATE);
            for (int gate = 0; gate < 8; gate++) {
                t.gate(gate, 0, 119, Check.STATE);
            }
            t.choose(0, 1, 119, Check.STATE).choose(119, 1, 0, Check.STATE).drop(120, Check.NO_SUCH);
            t.not(120, Check.NO_SUCH).gate(0, 0, 120, Check.NO_SUCH).choose(0, 1, 120, Check.NO_SUCH).count(2, 0);
        });
    }

    private static void nothingOfRefusalsWith120() {
        Talk.changesNothing(NOTHING + "refused with 120 bits", t -> t.bits(60, 60).raise(0, FAR), t -> {
            for (int gate = 0; gate < 8; gate++) {
                t.gate(gate, 0, 119, Check.STATE).gate(gate, 119, 0, Check.STATE);
            }
            t.choose(0, 1, 119, Check.STATE).choose(1, 0, 119, Check.STATE).choose(119, 1, 0, Check.STATE);
            t.count(2, 19);
        });
    }

    private static void nothingWithNoLines() {
        Talk.changesNothing(NOTHING + "no lines", t -> t.bits(1, 1), t -> {
            t.line(8, 0, 0, Check.NO_SUCH).line(-1, 0, 0, Check.NO_SUCH).line(0, 8, 0, Check.NO_SUCH);
            t.line(0, 0, 8, Check.NO_SUCH).line(0, -1, 0, Check.NO_SUCH).play(8, 0, Check.NO_SUCH);
            t.play(7, 0, Check.NO_SUCH).play(8, 256, Check.NO_SUCH).count(2, 0);
        });
    }

    private static void nothingWith24Lines() {
        Talk.changesNothing(NOTHING + "24 lines", t -> t.bits(1, 1).lines(24), t -> {
            t.line(0, 0, 0, Check.STATE).line(7, 31, 31, Check.STATE).line(8, 0, 0, Check.NO_SUCH);
            t.line(0, 32, 0, Check.NO_SUCH).line(0, 0, 32, Check.NO_SUCH).play(32, 0, Check.NO_SUCH);
            t.play(7, 255, Check.NO_SUCH).play(31, 256, Check.ARGUMENT).play(8, -1, Check.ARGUMENT).count(2, 0);
        });
    }

    private static void nothingOfPlayWith120() {
        Talk.changesNothing(NOTHING + "play with 120 bits", t -> t.bits(60, 60).lines(24), t -> {
            t.play(31, 0, Check.STATE).play(8, 255, Check.STATE).play(8, 256, Check.ARGUMENT);
            t.play(32, 0, Check.NO_SUCH).count(2, 0);
        });
    }
}
