import java.lang.reflect.Field;
import java.util.Arrays;

/**
 * What no call of the face can show: gates work without the key, within() and open() go by the row.
 * It reaches into the object by its fields' names.
 */
public final class RowsTest {
    public static void main(String[] args) throws Exception {
        gatesWithoutTheKey();
        openingNeedsTheKey();
        withinMeasures();
        rowsAreNotInTheClear();
        Check.finish();
    }

    private static Object field(Object owner, String name) throws Exception {
        Field f = owner.getClass().getDeclaredField(name);
        f.setAccessible(true);
        return f.get(owner);
    }

    private static int[] row(TorusGates x, int a) throws Exception {
        Object cell = ((Object[]) field(field(x, "ledger"), "cells"))[a];
        return (int[]) field(cell, "row");
    }

    private static int[] keyFor(TorusGates x, String part) throws Exception {
        return (int[]) field(field(x, "secret"), part);
    }

    private static void gatesWithoutTheKey() throws Exception {
        TorusGates x = new TorusGates();
        x.bit(false);
        x.bit(true);
        int[] rows = keyFor(x, "forRows");
        int[] ring = keyFor(x, "forRing");
        int[] keptRows = rows.clone();
        int[] keptRing = ring.clone();
        Arrays.fill(rows, 0x12345);
        Arrays.fill(ring, 0x54321);
        for (int g = 0; g < 8; g++) {
            x.gate(g, 0, 1);
        }
        x.choose(1, 0, 1);
        x.not(1);
        x.pile(1, 7);
        System.arraycopy(keptRows, 0, rows, 0, rows.length);
        System.arraycopy(keptRing, 0, ring, 0, ring.length);
        int[] want = {0, 1, 0, 1, 1, 0, 1, 0, 0, 0, 0, 0};
        for (int a = 0; a < want.length; a++) {
            int number = a;
            Check.due("without the key, bit " + a, want[a], () -> x.open(number));
            Check.due("without the key, within " + a, true, () -> x.within(number));
        }
    }

    private static void openingNeedsTheKey() throws Exception {
        TorusGates x = new TorusGates();
        for (int i = 0; i < 100; i++) {
            x.bit(true);
        }
        Arrays.fill(keyFor(x, "forRows"), 0);
        int zeros = 0;
        int outside = 0;
        for (int i = 0; i < 100; i++) {
            zeros += 1 - x.open(i);
            outside += x.within(i) ? 0 : 1;
        }
        Check.same("another key opens wrongly", true, zeros > 20);
        Check.same("another key finds bits out of their bounds", true, outside > 90);
    }

    private static void withinMeasures() throws Exception {
        TorusGates x = new TorusGates();
        x.bit(true);
        x.bit(false);
        for (int a = 0; a < 2; a++) {
            int[] row = row(x, a);
            row[8] += 40;
            Check.same("moved up", false, x.within(a));
            row[8] -= 80;
            Check.same("moved down", false, x.within(a));
            row[8] += 40 + (1 << 30);
            Check.same("moved far", false, x.within(a));
            row[8] -= 1 << 30;
            Check.same("moved back", true, x.within(a));
        }
        int[] row = row(x, 0);
        row[8] += 1 << 31;
        Check.same("on the other side", 0, x.open(0));
        Check.same("out of its bound there", false, x.within(0));
    }

    private static void rowsAreNotInTheClear() throws Exception {
        TorusGates x = new TorusGates();
        x.bit(true);
        x.bit(true);
        Check.same("two rows of one value differ", false, Arrays.equals(row(x, 0), row(x, 1)));
        int[] before = row(x, 0).clone();
        x.blur(0, 1);
        Check.same("a blurred row differs", false, Arrays.equals(before, row(x, 0)));
        x.key(2);
        x.bit(true);
        Check.same("a row under another key differs", false, Arrays.equals(before, row(x, 0)));
    }
}
