import java.lang.reflect.Field;
import java.lang.reflect.Method;
import java.util.Arrays;

/**
 * What no call of the face can show: gates work without the key, rows hide what they hold, within() and open()
 * go by the row. It reaches into the object by its fields' names.
 */
public final class RowsTest {
    public static void main(String[] args) throws Exception {
        newObjectHasTheKeyOfSeed1();
        sameCallsMakeTheSameRows();
        gatesWithoutTheKey();
        openingNeedsTheKey();
        withinMeasures();
        withinOnTheOtherSide();
        rowsAreNotInTheClear();
        masksAreDrawnAnew();
        keysAreDrawnAnew();
        blurMovesByAtMost16();
        pileLaysRowsOverThemselves();
        digitsAndRests();
        noiseOfRows();
        worstRoundings();
        Check.finish();
    }

    private static Object field(Object owner, String name) throws Exception {
        Field f = owner.getClass().getDeclaredField(name);
        f.setAccessible(true);
        return f.get(owner);
    }

    private static int[] row(TorusGates x, int a) throws Exception {
        Object cell = ((Object[]) field(field(x, "ledger"), "cells"))[a];
        return (int[]) field(cell, "row");
    }

    private static int placeOf(TorusGates x, int a) throws Exception {
        Object secret = field(x, "secret");
        return (int) method(secret.getClass(), "placeOf", int[].class).invoke(secret, row(x, a));
    }

    private static int[] keyFor(TorusGates x, String part) throws Exception {
        return (int[]) field(field(x, "secret"), part);
    }

    /** "A key of the seed 1": the same key as key(1) makes, and not that of another seed. */
    private static void newObjectHasTheKeyOfSeed1() throws Exception {
        String made = keyOf(new TorusGates());
        TorusGates x = new TorusGates();
        x.key(1);
        Check.same("key(1)", made, keyOf(x));
        x.key(2);
        Check.same("key(2) is another", false, made.equals(keyOf(x)));
        x.key(1);
        Check.same("key(1) again", made, keyOf(x));
    }

    private static String keyOf(TorusGates x) throws Exception {
        return Arrays.toString(keyFor(x, "forRows")) + Arrays.toString(keyFor(x, "forRing"));
    }

    private static void sameCallsMakeTheSameRows() throws Exception {
        TorusGates one = new TorusGates();
        TorusGates other = new TorusGates();
        for (TorusGates x : new TorusGates[] {one, other}) {
            new Talk("the same calls", x).key(5, 0).bits(1, 1).gate(4, 0, 1, 2).blur(0, 3, 64).choose(0, 1, 2, 3);
        }
        for (int a = 0; a < 4; a++) {
            Check.same("row " + a, Arrays.toString(row(one, a)), Arrays.toString(row(other, a)));
        }
    }

    private static void gatesWithoutTheKey() throws Exception {
        TorusGates x = new TorusGates();
        x.bit(false);
        x.bit(true);
        int[] rows = keyFor(x, "forRows");
        int[] ring = keyFor(x, "forRing");
        int[] keptRows = rows.clone();
        int[] keptRing = ring.clone();
        Arrays.fill(rows, 0x12345);
        Arrays.fill(ring, 0x54321);
        for (int g = 0; g < 8; g++) {
            x.gate(g, 0, 1);
        }
        x.choose(1, 0, 1);
        x.not(1);
        x.pile(1, 7);
        System.arraycopy(keptRows, 0, rows, 0, rows.length);
        System.arraycopy(keptRing, 0, ring, 0, ring.length);
        int[] want = {0, 1, 0, 1, 1, 0, 1, 0, 0, 0, 0, 0};
        for (int a = 0; a < want.length; a++) {
            int number = a;
            Check.due("without the key, bit " + a, want[a], () -> x.open(number));
            Check.due("without the key, within " + a, true, () -> x.within(number));
        }
    }

    private static void openingNeedsTheKey() throws Exception {
        TorusGates x = new TorusGates();
        for (int i = 0; i < 100; i++) {
            x.bit(true);
        }
        Arrays.fill(keyFor(x, "forRows"), 0);
        int zeros = 0;
        int outside = 0;
        for (int i = 0; i < 100; i++) {
            zeros += 1 - x.open(i);
            outside += x.within(i) ? 0 : 1;
        }
        Check.same("another key opens wrongly", true, zeros > 20);
        Check.same("another key finds bits out of their bounds", true, outside > 90);
    }

    /** On both sides the last place that is within the bound, and the first that is not. */
    private static void withinMeasures() throws Exception {
        for (int bound : new int[] {16, 32, 3186688, 268435456, Talk.GREATEST_BOUND}) {
            for (int value = 0; value < 2; value++) {
                TorusGates x = new TorusGates();
                new Talk("12: within its bound", x).bit(value == 1, 0).raise(0, bound);
                for (int side = -1; side <= 1; side += 2) {
                    moveTo(x, value, side * bound);
                    Check.same("at its bound " + side * bound, true, x.within(0));
                    moveTo(x, value, side * (bound + 1));
                    Check.same("beyond its bound " + side * bound, false, x.within(0));
                }
                moveTo(x, value, 0);
                Check.same("at its place", true, x.within(0));
                moveTo(x, value, Integer.MIN_VALUE);
                Check.same("on the other side", false, x.within(0));
            }
        }
    }

    /** Puts bit 0 off its place by so much. */
    private static void moveTo(TorusGates x, int value, int off) throws Exception {
        int[] row = row(x, 0);
        row[8] += (value == 1 ? 1 << 29 : -(1 << 29)) + off - placeOf(x, 0);
    }

    private static void withinOnTheOtherSide() throws Exception {
        TorusGates x = new TorusGates();
        x.bit(true);
        row(x, 0)[8] += 1 << 31;
        Check.same("open goes by the row", 0, x.open(0));
        Check.same("within goes by what the bit ought to be", false, x.within(0));
    }

    private static void rowsAreNotInTheClear() throws Exception {
        TorusGates x = new TorusGates();
        x.bit(true);
        x.bit(true);
        Check.same("two rows of one value differ", false, Arrays.equals(row(x, 0), row(x, 1)));
        int[] before = row(x, 0).clone();
        x.blur(0, 1);
        Check.same("a blurred row differs", false, Arrays.equals(before, row(x, 0)));
        x.key(2);
        x.bit(true);
        Check.same("a row under another key differs", false, Arrays.equals(before, row(x, 0)));
    }

    private static void masksAreDrawnAnew() throws Exception {
        TorusGates x = new TorusGates();
        x.bit(true);
        x.bit(true);
        eachDiffers("a row", row(x, 0), row(x, 1), 9);
        int[][] steps = (int[][]) field(field(x, "refresher"), "steps");
        for (int i = 1; i < steps.length; i++) {
            eachDiffers("a step", steps[i - 1], steps[i], 64);
        }
        int[][] wayBack = (int[][]) field(field(x, "refresher"), "wayBack");
        for (int i = 1; i < wayBack.length; i++) {
            eachDiffers("the way back", wayBack[i - 1], wayBack[i], 9);
        }
    }

    private static void eachDiffers(String what, int[] one, int[] other, int size) {
        for (int i = 0; i < size; i++) {
            Check.same("number " + i + " of " + what + " is the same twice", false, one[i] == other[i]);
        }
    }

    private static void keysAreDrawnAnew() throws Exception {
        int seeds = 60;
        for (String part : new String[] {"forRows", "forRing"}) {
            int[] ones = new int[32];
            for (int seed = 0; seed < seeds; seed++) {
                TorusGates x = new TorusGates();
                x.key(seed);
                int[] key = keyFor(x, part);
                for (int i = 0; i < key.length; i++) {
                    ones[i] += key[i];
                }
            }
            for (int i = 0; i < (part.equals("forRows") ? 8 : 32); i++) {
                Check.same("key bit " + i + " " + part + " varies", true, ones[i] > 10 && ones[i] < seeds - 10);
            }
        }
    }

    private static void blurMovesByAtMost16() throws Exception {
        TorusGates x = new TorusGates();
        x.bit(true);
        for (int i = 0; i < 500; i++) {
            int before = placeOf(x, 0);
            x.blur(0, 1);
            Check.same("a blur moves by at most 16", true, Math.abs(placeOf(x, 0) - before) <= 16);
        }
    }

    private static void pileLaysRowsOverThemselves() throws Exception {
        TorusGates x = new TorusGates();
        x.bit(true);
        int[] want = row(x, 0).clone();
        for (int i = 0; i < want.length; i++) {
            want[i] *= 801;
        }
        x.pile(0, 100);
        Check.same("801 times the row", Arrays.toString(want), Arrays.toString(row(x, 0)));
    }

    private static Method method(Class<?> owner, String name, Class<?>... types) throws Exception {
        Method m = owner.getDeclaredMethod(name, types);
        m.setAccessible(true);
        return m;
    }

    /** The count in the comment of Refresher rests on digits of at most 512 and rests of at most 2048. */
    private static void digitsAndRests() throws Exception {
        Class<?> digits = Class.forName("TorusGates$Digits");
        Method digit = method(digits, "digit", int.class, int.class);
        Method weight = method(digits, "weight", int.class);
        int number = 0;
        for (int i = 0; i < 200000; i++) {
            int rest = number;
            for (int which = 0; which < 2; which++) {
                int d = (int) digit.invoke(null, number, which);
                Check.same("digit of " + number + " in range", true, d >= -512 && d <= 511);
                rest -= d * (int) weight.invoke(null, which);
            }
            Check.same("rest of " + number + " in range", true, rest >= -2048 && rest <= 2048);
            number = i < 100000 ? number + 0x9E3779B1 : (i - 150000) * 64;
        }
    }

    /** It rests also on noise of at most 4 in the rows that help the gates; new rows have at most 16. */
    private static void noiseOfRows() throws Exception {
        for (int seed = -20; seed < 20; seed++) {
            TorusGates x = new TorusGates();
            x.key(seed);
            Object secret = field(x, "secret");
            Method placeOf = method(secret.getClass(), "placeOf", int[].class);
            int[] ring = keyFor(x, "forRing");
            int[][] wayBack = (int[][]) field(field(x, "refresher"), "wayBack");
            for (int i = 0; i < wayBack.length; i++) {
                int hidden = ring[i / 2] << (i % 2 == 0 ? 22 : 12);
                int noise = (int) placeOf.invoke(secret, wayBack[i]) - hidden;
                Check.same("noise on the way back", true, Math.abs(noise) <= 4);
            }
            int[] key = keyFor(x, "forRows");
            int[][] steps = (int[][]) field(field(x, "refresher"), "steps");
            for (int i = 0; i < steps.length; i++) {
                int half = i / 2 % 2;
                int[] pair = steps[i].clone();
                pair[half * 32] -= key[i / 4] << (i % 2 == 0 ? 22 : 12);
                Check.same("noise in a step", true, greatestNoise(pair, ring) <= 4);
            }
            for (int a = 0; a < 100; a++) {
                x.bit(a % 2 == 0);
                Check.same("noise in a new row", true, x.within(a));
            }
        }
    }

    /** The hidden half less the mask half times the key, by the plain rule that X to the power of 32 is -1. */
    private static int greatestNoise(int[] pair, int[] ring) {
        int greatest = 0;
        for (int c = 0; c < 32; c++) {
            int left = pair[32 + c];
            for (int i = 0; i < 32; i++) {
                left -= ring[i] * (i <= c ? pair[c - i] : -pair[32 + c - i]);
            }
            greatest = Math.max(greatest, Math.abs(left));
        }
        return greatest;
    }

    /** All key bits are 1 and all numbers are rounded the same way; the bits are as far off as gates bear. */
    private static void worstRoundings() throws Exception {
        int seed = seedOfOnes();
        int half = 1 << 25;
        for (int number : new int[] {0, 2, half - 2, half, half + 2, 2 * half - 2, -2, -half, -half - 2}) {
            for (int values = 0; values < 4; values++) {
                for (int sign = -1; sign <= 1; sign += 2) {
                    TorusGates x = new TorusGates();
                    x.key(seed);
                    worstGates(x, number, values, sign);
                }
            }
        }
    }

    private static int seedOfOnes() throws Exception {
        for (int seed = 0; seed < 100000; seed++) {
            TorusGates x = new TorusGates();
            x.key(seed);
            if (Arrays.stream(keyFor(x, "forRows")).sum() == 8) {
                return seed;
            }
        }
        throw new AssertionError("no seed makes a key of ones");
    }

    private static final int[] FIRST = {1, 1, -1, -1, 2, -2, 1, 1};
    private static final int[] SECOND = {1, 1, -1, -1, 2, -2, -1, -1};

    private static void worstGates(TorusGates x, int number, int values, int sign) throws Exception {
        for (int g = 0; g < 8; g++) {
            int off = sign * ((g == 4 || g == 5 ? 771751936 / 4 : 234881024 / 2) - 8);
            boolean first = values >> 1 == 1;
            boolean second = (values & 1) == 1;
            int a = x.bit(first);
            int b = x.bit(second);
            Talk t = new Talk("worst, raised", x);
            t.raise(a, Math.abs(off) + 8).raise(b, Math.abs(off) - 8);
            place(row(x, a), number / FIRST[g], first, off * Integer.signum(FIRST[g]));
            place(row(x, b), 0, second, (off - sign * 8) * Integer.signum(SECOND[g]));
            Check.same("worst, within " + g, true, x.within(a) && x.within(b));
            int made = x.gate(g, a, b);
            String what = "worst, gate " + g + " of " + values + ", " + number + ", " + sign;
            Check.same(what, Check.TABLES[g].charAt(values), x.open(made));
            Check.same(what + " within", true, x.within(made));
            x.drop(made);
            x.drop(b);
            x.drop(a);
        }
    }

    /** A row under the key of ones: all numbers of its mask the same, and off its place by so much. */
    private static void place(int[] row, int number, boolean value, int off) {
        Arrays.fill(row, number);
        row[8] = (value ? 1 << 29 : -(1 << 29)) + off + 8 * number;
    }
}
