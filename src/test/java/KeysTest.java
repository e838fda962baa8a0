/** Whatever key there is, bits are as gates say, and each lies within its bound. */
public final class KeysTest {
    private static final int[] EDGE_SEEDS = {0, 1, -1, 2, Integer.MIN_VALUE, Integer.MAX_VALUE, -77, 0x55555555};

    public static void main(String[] args) {
        for (int seed : EDGE_SEEDS) {
            underKey(seed);
        }
        for (int i = 1; i <= 300; i++) {
            underKey(i * 0x9E3779B1);
        }
        Check.finish();
    }

    private static void underKey(int seed) {
        TorusGates x = new TorusGates();
        x.key(seed);
        for (int values = 0; values < 4; values++) {
            gatesOfFarBits(x, seed, values, 14680063, 0, 7);
            gatesOfFarBits(x, seed, values, 24117247, 4, 5);
        }
        chain(x, seed);
    }

    /** Two bits whose bounds sum to so many sixteens, the most that the gates from .. to bear. */
    private static void gatesOfFarBits(TorusGates x, int seed, int values, int sum, int from, int to) {
        int first = x.bit(values >> 1 == 1);
        int second = x.bit((values & 1) == 1);
        PromisesTest.raise(x, first, sum - 2000000);
        PromisesTest.raise(x, second, 2000000);
        Check.same("seed " + seed + " far bit within", true, x.within(first));
        for (int g = from; g <= to; g++) {
            int made = x.gate(g, first, second);
            String what = "seed " + seed + " gate " + g + " of " + values;
            Check.same(what, Check.TABLES[g].charAt(values), x.open(made));
            Check.same(what + " within", true, x.within(made));
            x.drop(made);
        }
        x.drop(first);
        x.drop(second);
    }

    /** Results of gates are used by gates again: noise must not build up. */
    private static void chain(TorusGates x, int seed) {
        boolean value = true;
        int last = x.bit(true);
        int other = x.bit(false);
        for (int i = 0; i < 24; i++) {
            int g = i % 8;
            int made = x.gate(g, last, other);
            value = Check.TABLES[g].charAt((value ? 2 : 0)) == '1';
            Check.same("seed " + seed + " chain " + i, value ? 1 : 0, x.open(made));
            Check.same("seed " + seed + " chain " + i + " within", true, x.within(made));
            x.drop(last);
            last = made;
        }
        x.drop(last);
        x.drop(other);
    }
}
