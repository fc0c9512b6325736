import java.util.HashMap;
import java.util.HashSet;
import java.util.Map;
import java.util.Random;
import java.util.Set;
import java.util.TreeSet;

/** BOARDS by fixed seeds against laying piece after piece; CELL FIGURES against growing sets. */
final class CellsTest {
    public static void main(String[] args) {
        boards();
        figures();
        Due.end();
    }

    private static void boards() {
        Random random = new Random(3);
        PlainGeometry x = new PlainGeometry();
        for (int run = 0; run < 3000; run++) {
            int w = 1 + random.nextInt(run % 10 == 0 ? 8 : 6);
            int l = 1 + random.nextInt(run % 10 == 0 ? 8 : 6);
            long without = run % 3 == 0 ? 0 : random.nextLong() & random.nextLong() & random.nextLong();
            without = run % 3 == 1 ? without & random.nextLong() : without;
            without = run % 50 == 49 ? random.nextLong() : without;
            String told = w + ", " + l + ", " + without;
            Due.is("tile " + told, x.tile(w, l, without), lay(w, l, without, 2, new HashMap<>()));
            Due.is("rows " + told, x.rows(w, l, without), lay(w, l, without, 3, new HashMap<>()));
        }
    }

    /** The first free cell has a piece that begins there. */
    private static long lay(int w, int l, long covered, int length, Map<Long, Long> known) {
        for (int y = 0; y < l; y++) {
            for (int x = 0; x < w; x++) {
                if ((covered >>> 8 * y + x & 1) == 0) {
                    Long before = known.get(covered);
                    if (before != null) {
                        return before;
                    }
                    long across = 0;
                    long up = 0;
                    for (int i = 0; i < length; i++) {
                        across |= x + length <= w ? 1L << 8 * y + x + i : 0;
                        up |= y + length <= l ? 1L << 8 * (y + i) + x : 0;
                    }
                    long found = 0;
                    found += across != 0 && (covered & across) == 0 ? lay(w, l, covered | across, length, known) : 0;
                    found += up != 0 && (covered & up) == 0 ? lay(w, l, covered | up, length, known) : 0;
                    known.put(covered, found);
                    return found;
                }
            }
        }
        return 1;
    }

    private static void figures() {
        PlainGeometry x = new PlainGeometry();
        Set<TreeSet<Integer>> lying = new HashSet<>();
        lying.add(new TreeSet<>(Set.of(0)));
        for (int n = 1; n <= 8; n++) {
            Set<TreeSet<Integer>> turned = new HashSet<>();
            Set<TreeSet<Integer>> mirrored = new HashSet<>();
            int holed = 0;
            for (TreeSet<Integer> f : lying) {
                turned.add(least(f, 4));
                mirrored.add(least(f, 8));
                holed += hasHole(f) ? 1 : 0;
            }
            Due.is("lying " + n, x.list(0, n), lying.size());
            Due.is("turned " + n, x.list(1, n), turned.size());
            Due.is("mirrored " + n, x.list(2, n), mirrored.size());
            Due.is("holed " + n, x.list(3, n), holed);
            lying = grown(lying);
        }
    }

    // a cell is 100 x + y
    private static TreeSet<Integer> moved(Set<Integer> cells) {
        int leastX = 1000;
        int leastY = 1000;
        for (int c : cells) {
            leastX = Math.min(leastX, Math.floorDiv(c + 50, 100));
            leastY = Math.min(leastY, Math.floorMod(c + 50, 100) - 50);
        }
        TreeSet<Integer> made = new TreeSet<>();
        for (int c : cells) {
            made.add(c - 100 * leastX - leastY);
        }
        return made;
    }

    private static Set<TreeSet<Integer>> grown(Set<TreeSet<Integer>> figures) {
        Set<TreeSet<Integer>> made = new HashSet<>();
        for (TreeSet<Integer> f : figures) {
            for (int c : f) {
                for (int way : new int[] {1, -1, 100, -100}) {
                    TreeSet<Integer> more = new TreeSet<>(f);
                    if (more.add(c + way)) {
                        made.add(moved(more));
                    }
                }
            }
        }
        return made;
    }

    private static TreeSet<Integer> least(TreeSet<Integer> f, int images) {
        TreeSet<Integer> best = f;
        for (int image = 0; image < images; image++) {
            Set<Integer> made = new HashSet<>();
            for (int c : f) {
                int px = c / 100;
                int py = c % 100;
                if (image >= 4) {
                    px = -px;
                }
                for (int turn = 0; turn < image % 4; turn++) {
                    int turned = -py;
                    py = px;
                    px = turned;
                }
                made.add(100 * px + py);
            }
            TreeSet<Integer> there = moved(made);
            best = there.toString().compareTo(best.toString()) < 0 ? there : best;
        }
        return best;
    }

    private static boolean hasHole(TreeSet<Integer> f) {
        Set<Integer> out = new HashSet<>();
        spread(f, out, -1, -1);
        return out.size() + f.size() < 121;
    }

    private static void spread(Set<Integer> f, Set<Integer> out, int px, int py) {
        boolean isWithin = px >= -1 && py >= -1 && px <= 9 && py <= 9;
        if (!isWithin || f.contains(100 * px + py) || !out.add(100 * px + py)) {
            return;
        }
        spread(f, out, px + 1, py);
        spread(f, out, px - 1, py);
        spread(f, out, px, py + 1);
        spread(f, out, px, py - 1);
    }
}
