import java.util.Random;

/**
 * Calls with wild arguments in every state: nothing is thrown but by fraction over 0, and an answer
 * below 0 of a call that makes something changes nothing.
 */
final class WildTest {
    private static final int[] EDGES = {Integer.MIN_VALUE, Integer.MIN_VALUE + 1, -1001, -1000, -9, -2, -1, 0, 1, 2, 3,
        7, 8, 9, 10, 11, 12, 13, 19, 20, 59, 60, 99, 100, 199, 200, 1000, 1001, Integer.MAX_VALUE - 1, Integer.MAX_VALUE};
    private static final long[] LONGS = {Long.MIN_VALUE, Long.MIN_VALUE + 1, -(1L << 30) - 1, -(1L << 30), -(1L << 26) - 1,
        -7, -1, 0, 1, 2, 3, 1L << 26, (1L << 26) + 1, 1L << 30, (1L << 30) + 1, 1L << 62, Long.MAX_VALUE};

    private final Random random;
    private final PlainGeometry x = new PlainGeometry();

    private WildTest(int seed) {
        random = new Random(seed);
    }

    public static void main(String[] args) {
        for (int seed = 0; seed < 500; seed++) {
            new WildTest(seed).run(seed);
        }
        Due.end();
    }

    private void run(int seed) {
        for (int calls = 0; calls < 512; calls++) {
            int kind = random.nextInt(seed % 2 == 0 ? 24 : 12);
            int[] before = {x.count(0), x.count(1), x.count(2), x.count(3)};
            long got = 0;
            try {
                got = call(kind);
            } catch (RuntimeException e) {
                Due.is("call " + kind + " of seed " + seed + " threw " + e, false);
            }
            boolean makes = kind < 12;
            int more = x.count(0) + x.count(1) + x.count(2) + x.count(3) - before[0] - before[1] - before[2] - before[3];
            Due.is("made by " + kind, more, makes && kind != 10 && got >= 0 ? 1 : 0);
            Due.is("answer of " + kind + ": " + got, !makes || got >= -4 && got < 200);
        }
    }

    private int any() {
        int choice = random.nextInt(10);
        return choice == 0 ? random.nextInt() : choice < 3 ? EDGES[random.nextInt(EDGES.length)] : random.nextInt(choice < 7 ? 12 : 60);
    }

    private long anyLong() {
        int choice = random.nextInt(10);
        return choice == 0 ? random.nextLong() : choice < 4 ? LONGS[random.nextInt(LONGS.length)] : random.nextInt(40) - 20;
    }

    private long call(int kind) {
        switch (kind) {
            case 0: return fraction(anyLong(), anyLong());
            case 1: return x.apply(random.nextInt(12) - 1, any(), any());
            case 2:
            case 3: return x.step(random.nextInt(22) - 1, any(), any());
            case 4: return x.step(0, any(), any());
            case 5: return x.three(random.nextInt(11) - 1, any(), any(), any());
            case 6: return x.measure(random.nextInt(9) - 1, any(), any(), any());
            case 7: return x.term(anyLong(), any() % 5);
            case 8: return x.combine(random.nextInt(7) - 1, any(), any());
            case 9: return x.value(any(), any(), any(), any());
            case 10: return x.corner(any(), any(), any());
            case 11: return x.polygon();
            case 12: return x.compare(any(), any());
            case 13: return x.numberOf(any(), any());
            case 14: return (long) x.near(any());
            case 15: return x.thing(any(), any());
            case 16: return x.holds(random.nextInt(17) - 1, any(), any(), any(), any());
            case 17: return x.polygonOf(any(), any());
            case 18: return x.place(any(), any());
            case 19: return x.around(any(), any(), any());
            case 20: return x.coefficient(any(), any(), any(), any());
            case 21: return x.same(any(), any()) + x.count(any());
            case 22: return x.list(any(), any());
            default: return random.nextInt(40) == 0 ? x.tile(any(), any(), anyLong()) + x.rows(any(), any(), anyLong()) : x.count(any());
        }
    }

    private long fraction(long up, long down) {
        try {
            long got = x.fraction(up, down);
            Due.is("fraction over 0", down != 0);
            return got;
        } catch (ArithmeticException e) {
            Due.is("fraction threw over " + down, down == 0);
            return -4;
        }
    }
}
