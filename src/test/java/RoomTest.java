import java.lang.management.ManagementFactory;
import java.lang.reflect.Field;

/**
 * What calls allocate: all calls of a run share one room of some 600,000 objects and 7.3 million
 * fields and elements. An object takes 16 bytes at least, a field 8 at most.
 */
final class RoomTest {
    private static final int CALLS = 512;
    private static final com.sun.management.ThreadMXBean BEAN =
            (com.sun.management.ThreadMXBean) ManagementFactory.getThreadMXBean();

    private static long sink = 0;
    private static int dearestTaken = 0;

    private interface Call {
        long of(PlainGeometry x, int i);
    }

    public static void main(String[] args) throws Exception {
        // once before anything is counted, so that the machine's own loading is over
        for (int pass = 0; pass < 2; pass++) {
            isRoomy(pass, "made", 40_000, (x, i) -> new PlainGeometry().count(0));
            for (int kind = 0; kind < 20; kind++) {
                int k = kind;
                isRoomy(pass, "step " + kind, 4_000, (x, i) -> x.step(k, first(k), second(k)));
            }
            for (int kind = 0; kind < 9; kind++) {
                int k = kind;
                isRoomy(pass, "three " + kind, 4_000, (x, i) -> x.three(k, 0, k == 5 ? 3 : 1, k == 5 ? 4 : 2));
            }
            for (int kind = 0; kind < 7; kind++) {
                int k = kind;
                isRoomy(pass, "measure " + kind, 4_000, (x, i) -> x.measure(k, k == 4 ? 8 : 1, k == 3 ? 8 : k == 6 ? 5 : 2, 0));
            }
            String[] told = {"ppp", "lll", "pl", "pc", "ll", "ll", "pppp", "pppp", "lc", "cc", "cc", "ppp", "pc", "llc", "pppp"};
            for (int kind = 0; kind < 15; kind++) {
                int k = kind;
                isRoomy(pass, "holds " + kind, 4_000, (x, i) -> x.holds(k, at(told[k], 0), at(told[k], 1), at(told[k], 2), at(told[k], 3)));
            }
            isRoomy(pass, "fraction", 200, (x, i) -> x.fraction(i, 7));
            isRoomy(pass, "apply", 200, (x, i) -> x.apply(i % 10, 1, 2));
            isRoomy(pass, "numberOf", 200, (x, i) -> x.numberOf(i % 5, i % 9));
            isRoomy(pass, "polygon", 200, (x, i) -> x.polygon() + x.corner(0, i, i));
            isRoomy(pass, "polygonOf", 200, (x, i) -> x.polygonOf(0, i % 9));
            isRoomy(pass, "around", 200, (x, i) -> x.around(0, i % 5, 0));
            isRoomy(pass, "place", 200, (x, i) -> x.place(0, i % 5));
            isRoomy(pass, "term", 1_000, (x, i) -> x.term(i, i % 3));
            isRoomy(pass, "combine", 1_000, (x, i) -> x.combine(i % 5, 2, 2));
            isRoomy(pass, "value", 1_000, (x, i) -> x.value(2, 1, 1, 1));
            isRoomy(pass, "tile", 1_000, (x, i) -> x.tile(8, 8, i));
            isRoomy(pass, "rows", 1_000, (x, i) -> x.rows(8, 8, i));
            isRoomy(pass, "list", 1_000, (x, i) -> x.list(i % 4, 1 + i % 8));
        }
        Due.is("the pool is never used up: " + dearestTaken, dearestTaken > 100 && dearestTaken < 400);
        Due.is("something was answered", sink != 0);
        Due.end();
    }

    private static int at(String told, int i) {
        return i >= told.length() ? 0 : told.charAt(i) == 'p' ? i : told.charAt(i) == 'l' ? 5 + i : 8 + i;
    }

    private static int first(int kind) {
        char sort = ("nplpppppppl" + "cppllccpp").charAt(kind);
        return sort == 'n' ? 1 : sort == 'p' ? kind >= 18 ? 4 : 2 : sort == 'l' ? 5 : 9;
    }

    private static int second(int kind) {
        char sort = ("nplpllllccc" + "cppcccccc").charAt(kind);
        return sort == 'n' ? 2 : sort == 'p' ? 0 : sort == 'l' ? 6 : kind == 16 || kind == 17 ? 10 : 9;
    }

    /** POINTS 0 to 4, LINES 5 to 7, CIRCLES 8 to 10 with great numbers. */
    private static PlainGeometry made() {
        PlainGeometry x = new PlainGeometry();
        long[][] places = {{0, 1, 0, 1}, {1019, 1021, 1013, 1023}, {-999, 1009, 1001, 1024}, {6, 1, 3, 1}, {2, 1, 1, 1}};
        for (long[] p : places) {
            x.step(0, x.fraction(p[0], p[1]), x.fraction(p[2], p[3]));
        }
        x.step(1, 0, 3);
        x.step(6, 4, 5);
        x.step(6, 3, 5);
        x.step(12, 0, 3);
        x.step(13, 0, 4);
        x.step(12, 3, 4);
        x.polygon();
        for (int[] c : new int[][] {{0, 0}, {4, 0}, {6, 3}, {3, 5}, {2, 2}, {-1, 4}}) {
            x.corner(0, c[0], c[1]);
        }
        x.combine(0, x.term(1, 0), x.term(3, 1));
        Due.is("eleven things", x.count(1), 11);
        return x;
    }

    private static void isRoomy(int pass, String told, long most, Call call) throws Exception {
        PlainGeometry x = made();
        long id = Thread.currentThread().getId();
        long before = BEAN.getThreadAllocatedBytes(id);
        for (int i = 0; i < CALLS; i++) {
            sink += call.of(x, i);
        }
        long bytes = (BEAN.getThreadAllocatedBytes(id) - before) / CALLS;
        dearestTaken = Math.max(dearestTaken, taken(x));
        if (pass > 0) {
            Due.is(told + " allocates " + bytes + " bytes a call", bytes <= most);
        }
    }

    private static int taken(PlainGeometry x) throws Exception {
        Field sums = PlainGeometry.class.getDeclaredField("sums");
        sums.setAccessible(true);
        Field taken = sums.getType().getDeclaredField("taken");
        taken.setAccessible(true);
        return taken.getInt(sums.get(x));
    }
}
