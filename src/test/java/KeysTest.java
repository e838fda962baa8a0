/** "Whatever key there is, bits are as gates say, and each lies within its bound." */
public final class KeysTest {
    private static final int[] EDGE_SEEDS = {0, 1, -1, 2, Integer.MIN_VALUE, Integer.MAX_VALUE, -77, 0x55555555};

    public static void main(String[] args) {
        for (int seed : EDGE_SEEDS) {
            underKey(seed);
        }
        for (int i = 1; i <= 300; i++) {
            underKey(i * 0x9E3779B1);
        }
        manyKeysInOneObject();
        Check.finish();
    }

    private static void underKey(int seed) {
        Talk t = new Talk("Whatever key there is: of the seed " + seed).key(seed, 0);
        for (int values = 0; values < 4; values++) {
            gatesOfFarBits(t, values, 234881008, 0, 7);
            gatesOfFarBits(t, values, 385875952, 4, 5);
        }
        chain(t);
        choices(t);
        plays(t);
    }

    /** Nothing of a key before may be left in the rows that the gates work with. */
    private static void manyKeysInOneObject() {
        Talk t = new Talk("2: Another key, of a seed, again and again").line(5, 0, 1, 8).line(6, 8, 2, 9);
        int bits = 0;
        for (int seed = -25; seed < 25; seed++) {
            t.key(seed, bits).bits(1, 1).gate(4, 0, 1, 2).is(2, 1, Talk.GATE_BOUND).play(9, seed & 7, 3);
            t.open(3, (seed & 7) == 0 || (seed & 7) == 3 ? 1 : 0);
            bits = 4;
        }
    }

    /** Two bits whose bounds have this sum, the most that the gates from .. to bear. */
    private static void gatesOfFarBits(Talk t, int values, int sum, int from, int to) {
        t.bit(values >> 1 == 1, 0).bit((values & 1) == 1, 1).raise(0, sum - 32000000).raise(1, 32000000);
        t.within(0, true).within(1, true);
        for (int g = from; g <= to; g++) {
            t.gate(g, 0, 1, 2).open(2, Check.TABLES[g].charAt(values)).within(2, true).drop(2, 2);
        }
        t.drop(0, 1).drop(1, 0);
    }

    private static void choices(Talk t) {
        t.bits(1, 1).choose(0, 0, 1, 2).is(2, 1, Talk.GATE_BOUND).choose(1, 0, 2, 3).is(3, 0, Talk.GATE_BOUND);
        t.choose(2, 2, 3, 4).is(4, 1, Talk.GATE_BOUND).choose(3, 2, 3, 5).is(5, 0, Talk.GATE_BOUND);
    }

    /** All eight gates in a circuit of which each line uses the one ahead of it. */
    private static void plays(Talk t) {
        t.line(0, 0, 1, 8);
        for (int gate = 1; gate < 8; gate++) {
            t.line(gate, 7 + gate, gate, 8 + gate);
        }
        for (int i = 0; i < 4; i++) {
            int inputs = i * 0x55;
            int value = inputs & 1;
            for (int gate = 0; gate < 8; gate++) {
                int second = inputs >> Math.max(gate, 1) & 1;
                value = Check.TABLES[gate].charAt(value * 2 + second) - '0';
            }
            t.play(15, inputs, 6 + i).is(6 + i, value, Talk.GATE_BOUND);
        }
    }

    /** Results of gates are used by gates again: noise must not build up. */
    private static void chain(Talk t) {
        t.bits(1, 1);
        int value = 1;
        for (int i = 0; i < 24; i++) {
            value = Check.TABLES[i % 8].charAt(value * 2) - '0';
            int last = 1 + i % 2;
            t.gate(i % 8, last, 0, 3 - last).open(3 - last, value).within(3 - last, true).drop(last, 2);
        }
        t.drop(0, 1).drop(1, 0);
    }
}
