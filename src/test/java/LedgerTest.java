/** Which bits are there: "BITS are 0 .. 119" and promises 1 to 5, a test for each sentence. */
public final class LedgerTest {
    private static final int[] NO_BITS = {-1, 120, Integer.MIN_VALUE, Integer.MAX_VALUE};
    private static final int[] SEEDS = {0, 1, -1, 7, Integer.MIN_VALUE, Integer.MAX_VALUE};

    public static void main(String[] args) {
        bitsAre0To119();
        lastBitIsOne();
        eachIsThereOrNot();
        newObjectHasNoBits();
        newObjectHasNoCircuit();
        newObjectBesideAnother();
        keyTakesAllBits();
        keyLeavesNothingOfThem();
        keyLeavesTheCircuit();
        keyLeavesTheCountsOfGates();
        keyOfAnySeed();
        bitIsNew();
        bitTakesTheLeastNumber();
        bitWith120();
        dropTellsWhatIsLeft();
        dropTakesOneAlone();
        dropTwice();
        notIsTheOpposite();
        notHasTheSameBound();
        notIsABitOfItsOwn();
        notTakesTheLeastNumber();
        notWith120();
        Check.same("NONE", -1, TorusGates.NONE);
        Check.finish();
    }

    /** All calls that name a bit, with a bit that is there beside it. */
    private static void noSuchBit(Talk t, int a, int there) {
        t.drop(a, Check.NO_SUCH).not(a, Check.NO_SUCH);
        t.blur(a, 0, Check.NO_SUCH).pile(a, 0, Check.NO_SUCH);
        t.gate(0, a, there, Check.NO_SUCH).gate(0, there, a, Check.NO_SUCH).gate(4, a, a, Check.NO_SUCH);
        t.choose(a, there, there, Check.NO_SUCH);
        t.choose(there, a, there, Check.NO_SUCH);
        t.choose(there, there, a, Check.NO_SUCH);
        t.open(a, Check.NO_SUCH).bound(a, Check.NO_SUCH).within(a, Check.NO_SUCH);
    }

    private static void bitsAre0To119() {
        Talk full = new Talk("BITS are 0 .. 119: with all of them there").bits(60, 60);
        Talk few = new Talk("BITS are 0 .. 119: with two of them there").bits(1, 1);
        for (int a : NO_BITS) {
            noSuchBit(full, a, 0);
            noSuchBit(few, a, 0);
        }
        full.is(0, 0, 16).is(119, 1, 16).counts(120, 0, 0, 0, 16);
        few.is(0, 0, 16).is(1, 1, 16).counts(2, 0, 0, 0, 16);
    }

    private static void lastBitIsOne() {
        Talk t = new Talk("BITS are 0 .. 119: 119 is as good as any").bits(60, 60).drop(0, 119);
        t.not(119, 0).open(0, 0).drop(0, 119);
        t.blur(119, 1, 32).pile(119, 1, 288).is(119, 1, 288);
        t.gate(0, 119, 118, 0).open(0, 1).drop(0, 119);
        t.gate(6, 118, 119, 0).open(0, 0).drop(0, 119);
        t.choose(119, 118, 1, 0).open(0, 1).drop(0, 119);
        t.choose(118, 119, 1, 0).open(0, 1).drop(0, 119);
        t.choose(1, 2, 119, 0).open(0, 1).drop(119, 119);
        noSuchBit(t, 119, 118);
    }

    private static void eachIsThereOrNot() {
        Talk t = new Talk("each is there, or not");
        noSuchBit(t, 0, 0);
        t.bit(true, 0);
        noSuchBit(t, 1, 0);
        t.bit(true, 1).drop(0, 1);
        noSuchBit(t, 0, 1);
        t.is(1, 1, 16);
        Talk nearlyFull = new Talk("each is there, or not: all but the last").bits(60, 59);
        noSuchBit(nearlyFull, 119, 0);
        nearlyFull.bit(true, 119).is(119, 1, 16);
    }

    private static void newObjectHasNoBits() {
        Talk t = new Talk("1: no bits");
        for (int a = 0; a < 120; a++) {
            t.bound(a, Check.NO_SUCH).open(a, Check.NO_SUCH);
        }
        t.counts(0, 0, 0, 0, 0).key(1, 0);
    }

    private static void newObjectHasNoCircuit() {
        new Talk("1: no circuit").play(8, 0, Check.NO_SUCH).play(31, 0, Check.NO_SUCH)
            .line(0, 8, 0, Check.NO_SUCH).counts(0, 0, 0, 0, 0).clear(0).line(0, 0, 0, 8);
    }

    private static void newObjectBesideAnother() {
        Talk one = new Talk("1: A new object, beside one that is made later").bits(60, 60).lines(24);
        Talk other = new Talk("1: A new object, beside one that is in use").counts(0, 0, 0, 0, 0);
        other.bit(true, 0).open(1, Check.NO_SUCH).play(8, 0, Check.NO_SUCH).key(9, 1).bit(true, 0).pile(0, 1, 144);
        one.is(0, 0, 16).is(119, 1, 16).counts(120, 0, 0, 24, 16).drop(0, 119).gate(1, 1, 119, 0);
        other.gate(0, 0, 0, 1).is(1, 1, Talk.GATE_BOUND).is(0, 1, 144).line(0, 0, 0, 8);
        one.is(0, 1, Talk.GATE_BOUND).clear(24).key(9, 120).counts(0, 1, 0, 0, 0);
        other.counts(2, 1, 0, 1, Talk.GATE_BOUND).is(0, 1, 144).is(1, 1, Talk.GATE_BOUND).play(8, 1, 2).open(2, 1);
    }

    private static void keyTakesAllBits() {
        Talk t = new Talk("2: all bits go: how many there were");
        t.key(5, 0).bits(0, 1).key(5, 1).key(5, 0).bits(60, 59).key(6, 119).bits(60, 60).key(6, 120).key(6, 0);
        t.count(0, 0).count(4, 0);
        for (int a = 0; a < 120; a++) {
            t.bound(a, Check.NO_SUCH);
        }
        Talk holes = new Talk("2: how many there were, not the greatest number").bits(3, 2).drop(0, 4).drop(3, 3);
        holes.key(1, 3).count(0, 0).bit(true, 0).bit(false, 1);
    }

    private static void keyLeavesNothingOfThem() {
        Talk t = new Talk("2: all bits go").bits(0, 2).raise(0, Talk.GREATEST_BOUND).gate(0, 1, 1, 2);
        t.key(9, 3).bits(3, 0).is(0, 0, 16).is(1, 0, 16).is(2, 0, 16).count(4, 16);
    }

    private static void keyLeavesTheCircuit() {
        Talk none = new Talk("2: the circuit stays, if there is none").key(3, 0).count(3, 0).clear(0);
        none.play(8, 0, Check.NO_SUCH);
        Talk one = new Talk("2: the circuit stays").line(4, 0, 1, 8).key(3, 0).count(3, 1);
        one.play(8, 1, 0).is(0, 1, Talk.GATE_BOUND).play(8, 3, 1).open(1, 0).line(0, 8, 0, 9);
        Talk full = new Talk("2: the circuit stays, with 24 lines").lines(24).key(3, 0).count(3, 24);
        full.line(0, 0, 0, Check.STATE).play(31, 128, 0).open(0, 1).play(31, 1, 1).open(1, 0).clear(24);
    }

    private static void keyLeavesTheCountsOfGates() {
        Talk t = new Talk("2: what count() tells of gates, stays").bits(1, 1).line(4, 0, 1, 8);
        t.gate(0, 0, 1, 2).choose(0, 1, 2, 3).play(8, 1, 4).raise(0, Talk.GREATEST_BOUND);
        t.gate(0, 0, 1, Check.STATE).choose(0, 1, 1, Check.STATE);
        t.counts(5, 5, 2, 1, Talk.GREATEST_BOUND).key(4, 5).counts(0, 5, 2, 1, 0).key(4, 0).counts(0, 5, 2, 1, 0);
        t.bits(1, 1).gate(0, 0, 1, 2).counts(3, 6, 2, 1, Talk.GATE_BOUND);
    }

    private static void keyOfAnySeed() {
        for (int seed : SEEDS) {
            Talk t = new Talk("2: Another key, of a seed").bits(1, 1).key(seed, 2).bits(1, 1);
            t.is(0, 0, 16).is(1, 1, 16).gate(2, 0, 1, 2).is(2, 1, Talk.GATE_BOUND);
            t.key(seed, 3).bits(1, 1).is(0, 0, 16).is(1, 1, 16).gate(2, 1, 1, 2).is(2, 0, Talk.GATE_BOUND);
        }
    }

    private static void bitIsNew() {
        new Talk("3: A new bit; Terms: a new one has 16").bit(false, 0).is(0, 0, 16).bit(true, 1).is(1, 1, 16);
        Talk again = new Talk("3: A new bit, where another was").bit(true, 0).raise(0, Talk.GREATEST_BOUND);
        again.drop(0, 0).bit(false, 0).is(0, 0, 16).drop(0, 0).bit(true, 0).is(0, 1, 16);
    }

    private static void bitTakesTheLeastNumber() {
        Talk t = new Talk("3: the least number that is not there").bits(0, 120);
        t.drop(119, 119).bit(false, 119).is(119, 0, 16);
        t.drop(0, 119).bit(false, 0).is(0, 0, 16);
        t.drop(77, 119).drop(118, 118).drop(5, 117);
        t.bit(false, 5).bit(true, 77).bit(false, 118).is(5, 0, 16).is(77, 1, 16).is(118, 0, 16);
        Talk grown = new Talk("3: the least number that is not there, not the next").bits(2, 2);
        grown.drop(1, 3).drop(3, 2).bit(true, 1).bit(true, 3).bit(true, 4);
    }

    private static void bitWith120() {
        Talk t = new Talk("3: IllegalStateException: there are 120").bits(60, 59).bit(true, 119);
        t.bit(true, Check.STATE).bit(false, Check.STATE).count(0, 120).is(119, 1, 16).is(0, 0, 16);
        t.drop(60, 119).bit(false, 60).bit(false, Check.STATE).count(0, 120).count(2, 0);
    }

    private static void dropTellsWhatIsLeft() {
        Talk t = new Talk("4: how many are left").bits(60, 60);
        for (int left = 119; left >= 0; left--) {
            t.drop((left * 7 + 3) % 120, left).count(0, left);
        }
        t.drop(0, Check.NO_SUCH).count(4, 0);
    }

    private static void dropTakesOneAlone() {
        Talk t = new Talk("4: A bit goes").bits(1, 2).drop(1, 2).bound(1, Check.NO_SUCH);
        t.is(0, 0, 16).is(2, 1, 16).gate(0, 2, 2, 1).is(1, 1, Talk.GATE_BOUND);
        t.drop(1, 2).count(4, 16).count(1, 1);
    }

    private static void dropTwice() {
        new Talk("4: NoSuchElementException").drop(0, Check.NO_SUCH).bits(0, 2).drop(0, 1)
            .drop(0, Check.NO_SUCH).drop(2, Check.NO_SUCH).count(0, 1).drop(1, 0).drop(1, Check.NO_SUCH).count(0, 0);
    }

    private static void notIsTheOpposite() {
        Talk t = new Talk("5: A bit's opposite").bits(1, 1);
        t.not(0, 2).open(2, 1).not(1, 3).open(3, 0).not(2, 4).open(4, 0).not(3, 5).open(5, 1);
        t.gate(1, 0, 1, 6).not(6, 7).is(7, 0, Talk.GATE_BOUND);
        t.gate(0, 2, 5, 8).open(8, 1).count(1, 2).count(2, 0);
    }

    private static void notHasTheSameBound() {
        for (int bound : new int[] {16, 32, 12816, 268435440, 268435456, Talk.GREATEST_BOUND}) {
            for (int value = 0; value < 2; value++) {
                Talk t = new Talk("5: with the same bound").bit(value == 1, 0).raise(0, bound);
                t.not(0, 1).bound(1, bound).within(1, true).bound(0, bound).within(0, true);
                t.open(1, bound < 268435456 ? 1 - value : Check.STATE).count(4, bound);
                t.not(1, 2).bound(2, bound).within(2, true);
            }
        }
    }

    private static void notIsABitOfItsOwn() {
        Talk t = new Talk("5: a bit of its own").bits(0, 1).not(0, 1);
        t.blur(0, 3, 64).pile(0, 1, 576).is(1, 0, 16).blur(1, 2, 48).pile(1, 2, 816).is(0, 1, 576).is(1, 0, 816);
        t.drop(0, 1).is(1, 0, 816).not(1, 0).drop(1, 1).is(0, 1, 816);
    }

    private static void notTakesTheLeastNumber() {
        Talk t = new Talk("5: its number, the least that is not there").bits(60, 59);
        t.not(0, 119).is(119, 1, 16).drop(3, 119).drop(117, 118).not(60, 3).is(3, 0, 16).not(0, 117).is(117, 1, 16);
    }

    private static void notWith120() {
        Talk t = new Talk("5: IllegalStateException: there are 120").bits(60, 60);
        t.not(0, Check.STATE).not(119, Check.STATE).count(0, 120).count(2, 0).is(0, 0, 16).is(119, 1, 16);
        t.drop(50, 119).not(0, 50).is(50, 1, 16).not(0, Check.STATE);
    }
}
