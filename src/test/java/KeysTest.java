/** "Whatever key there is, bits are as gates say, and each lies within its bound." */
public final class KeysTest {
    private static final int[] EDGE_SEEDS = {0, 1, -1, 2, Integer.MIN_VALUE, Integer.MAX_VALUE, -77, 0x55555555};

    public static void main(String[] args) {
        for (int seed : EDGE_SEEDS) {
            underKey(seed);
        }
        for (int i = 1; i <= 300; i++) {
            underKey(i * 0x9E3779B1);
        }
        Check.finish();
    }

    private static void underKey(int seed) {
        Talk t = new Talk("Whatever key there is: of the seed " + seed).key(seed, 0);
        for (int values = 0; values < 4; values++) {
            gatesOfFarBits(t, values, 234881008, 0, 7);
            gatesOfFarBits(t, values, 385875952, 4, 5);
        }
        chain(t);
        choices(t);
    }

    /** Two bits whose bounds have this sum, the most that the gates from .. to bear. */
    private static void gatesOfFarBits(Talk t, int values, int sum, int from, int to) {
        t.bit(values >> 1 == 1, 0).bit((values & 1) == 1, 1).raise(0, sum - 32000000).raise(1, 32000000);
        t.within(0, true).within(1, true);
        for (int g = from; g <= to; g++) {
            t.gate(g, 0, 1, 2).open(2, Check.TABLES[g].charAt(values)).within(2, true).drop(2, 2);
        }
        t.drop(0, 1).drop(1, 0);
    }

    private static void choices(Talk t) {
        t.bits(1, 1).choose(0, 0, 1, 2).is(2, 1, Talk.GATE_BOUND).choose(1, 0, 2, 3).is(3, 0, Talk.GATE_BOUND);
        t.choose(2, 2, 3, 4).is(4, 1, Talk.GATE_BOUND).choose(3, 2, 3, 5).is(5, 0, Talk.GATE_BOUND);
    }

    /** Results of gates are used by gates again: noise must not build up. */
    private static void chain(Talk t) {
        t.bits(1, 1);
        int value = 1;
        for (int i = 0; i < 24; i++) {
            value = Check.TABLES[i % 8].charAt(value * 2) - '0';
            int last = 1 + i % 2;
            t.gate(i % 8, last, 0, 3 - last).open(3 - last, value).within(3 - last, true).drop(last, 2);
        }
        t.drop(0, 1).drop(1, 0);
    }
}
