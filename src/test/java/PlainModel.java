import java.util.ArrayList;
import java.util.List;
import java.util.NoSuchElementException;
import java.util.TreeMap;

/** The document's ledger without any rows: what the answers must be. */
final class PlainModel {
    private static final long GATE_BOUND = 3186688;

    private static final class Plain {
        final boolean value;
        long bound;

        Plain(boolean value, long bound) {
            this.value = value;
            this.bound = bound;
        }
    }

    private final TreeMap<Integer, Plain> bits = new TreeMap<>();
    private final List<int[]> circuit = new ArrayList<>();
    private int done;
    private int refused;

    int reach() {
        return bits.isEmpty() ? 0 : bits.lastKey() + 1;
    }

    int lines() {
        return circuit.size();
    }

    int key() {
        int were = bits.size();
        bits.clear();
        return were;
    }

    int bit(boolean v) {
        return put(new Plain(v, 16));
    }

    int drop(int a) {
        need(a);
        bits.remove(a);
        return bits.size();
    }

    int not(int a) {
        Plain p = need(a);
        return put(new Plain(!p.value, p.bound));
    }

    long blur(int a, int n) {
        Plain p = need(a);
        range(n, 1000);
        return raise(p, p.bound + 16L * n);
    }

    long pile(int a, int k) {
        Plain p = need(a);
        range(k, 100);
        return raise(p, p.bound * (8 * k + 1));
    }

    int gate(int gate, int a, int b) {
        if (gate < 0 || gate > 7) {
            throw new NoSuchElementException();
        }
        Plain p = need(a);
        Plain q = need(b);
        refuse(tooFar(gate, p, q));
        int number = put(new Plain(value(gate, p.value, q.value), GATE_BOUND));
        done++;
        return number;
    }

    int choose(int c, int b, int a) {
        Plain chooser = need(c);
        Plain one = need(b);
        Plain zero = need(a);
        refuse(tooFar(0, chooser, one) || tooFar(6, zero, chooser));
        int number = put(new Plain(chooser.value ? one.value : zero.value, GATE_BOUND));
        done += 3;
        return number;
    }

    int open(int a) {
        Plain p = need(a);
        if (p.bound >= 268435456) {
            throw new IllegalStateException();
        }
        return p.value ? 1 : 0;
    }

    long bound(int a) {
        return need(a).bound;
    }

    boolean within(int a) {
        need(a);
        return true;
    }

    int line(int gate, int a, int b) {
        int end = 8 + circuit.size();
        if (gate < 0 || gate > 7 || a < 0 || a >= end || b < 0 || b >= end) {
            throw new NoSuchElementException();
        }
        if (circuit.size() == 24) {
            throw new IllegalStateException();
        }
        circuit.add(new int[] {gate, a, b});
        return end;
    }

    int play(int line, int inputs) {
        if (line < 8 || line >= 8 + circuit.size()) {
            throw new NoSuchElementException();
        }
        range(inputs, 255);
        boolean[] values = new boolean[32];
        for (int k = 0; k < 8; k++) {
            values[k] = (inputs >> k & 1) == 1;
        }
        for (int i = 8; i <= line; i++) {
            int[] l = circuit.get(i - 8);
            values[i] = value(l[0], values[l[1]], values[l[2]]);
        }
        int number = put(new Plain(values[line], GATE_BOUND));
        done += line - 7;
        return number;
    }

    int clear() {
        int were = circuit.size();
        circuit.clear();
        return were;
    }

    long count(int what) {
        switch (what) {
            case 0: return bits.size();
            case 1: return done;
            case 2: return refused;
            case 3: return circuit.size();
            case 4: return bits.values().stream().mapToLong(p -> p.bound).max().orElse(0);
            default: throw new IllegalArgumentException();
        }
    }

    private Plain need(int a) {
        Plain p = bits.get(a);
        if (p == null) {
            throw new NoSuchElementException();
        }
        return p;
    }

    private int put(Plain p) {
        for (int i = 0; i < 120; i++) {
            if (!bits.containsKey(i)) {
                bits.put(i, p);
                return i;
            }
        }
        throw new IllegalStateException();
    }

    private static void range(int n, int most) {
        if (n < 0 || n > most) {
            throw new IllegalArgumentException();
        }
    }

    private static long raise(Plain p, long bound) {
        if (bound >= 1073741824) {
            throw new IllegalStateException();
        }
        p.bound = bound;
        return bound;
    }

    private static boolean tooFar(int gate, Plain p, Plain q) {
        long sum = p.bound + q.bound;
        return gate == 4 || gate == 5 ? 2 * sum >= 771751936L : sum >= 234881024L;
    }

    private void refuse(boolean tooFar) {
        if (tooFar) {
            refused++;
            throw new IllegalStateException();
        }
    }

    private static boolean value(int gate, boolean a, boolean b) {
        return Check.TABLES[gate].charAt((a ? 2 : 0) + (b ? 1 : 0)) == '1';
    }
}
