/** The edges that the document names of BOARDS and CELL FIGURES: promises 22 to 24. */
final class EdgeCellsTest {
    private static final int[] BEYOND = {0, 9, -1, -8, 10, 64, Make.TINY, Make.HUGE};

    public static void main(String[] args) {
        sizes();
        without();
        outside();
        tile();
        rows();
        list();
        holes();
        listWrong();
        nothingChanges();
        Due.end();
    }

    private static void tiled(int w, int l, long without, long due) {
        Due.is("tile(" + w + ", " + l + ", " + without + ")", new PlainGeometry().tile(w, l, without), due);
    }

    private static void laid(int w, int l, long without, long due) {
        Due.is("rows(" + w + ", " + l + ", " + without + ")", new PlainGeometry().rows(w, l, without), due);
    }

    private static void sizes() {
        Due.by("A BOARD is w by l cells, 1 .. 8 each");
        for (int size = 1; size <= 8; size++) {
            tiled(size, 1, 0, size % 2 == 0 ? 1 : 0);
            tiled(1, size, 0, size % 2 == 0 ? 1 : 0);
            laid(size, 1, 0, size % 3 == 0 ? 1 : 0);
            laid(1, size, 0, size % 3 == 0 ? 1 : 0);
        }
        tiled(8, 8, 0, 12988816);
        tiled(8, 7, 0, 1292697);
        tiled(7, 8, 0, 1292697);
        laid(8, 6, 0, 321);
        laid(6, 8, 0, 321);
        Due.by("22, 23 -2");
        for (int size : BEYOND) {
            for (long without : new long[] {0, 1, -1L}) {
                tiled(size, 3, without, -2);
                tiled(3, size, without, -2);
                tiled(size, size, without, -2);
                laid(size, 3, without, -2);
                laid(3, size, without, -2);
                laid(size, size, without, -2);
            }
        }
        tiled(9, 8, 0, -2);
        tiled(8, 9, 0, -2);
        laid(9, 8, 0, -2);
        laid(8, 9, 0, -2);
    }

    private static long cell(int x, int y) {
        return 1L << 8 * y + x;
    }

    private static void without() {
        Due.by("without those that a long tells as bits (bit 8 y + x)");
        for (int at = 0; at < 8; at++) {
            tiled(8, 1, cell(at, 0), 0);
            tiled(8, 1, cell(at, 0) | cell((at + 1) % 8, 0), at % 2 == 0 || at == 7 ? 1 : 0);
            tiled(1, 8, cell(0, at) | cell(0, (at + 1) % 8), at % 2 == 0 || at == 7 ? 1 : 0);
            laid(7, 1, cell(at % 7, 0), at % 7 % 3 == 0 ? 1 : 0);
            laid(1, 7, cell(0, at % 7), at % 7 % 3 == 0 ? 1 : 0);
        }
        for (int x = 0; x < 3; x++) {
            for (int y = 0; y < 3; y++) {
                boolean isEven = (x + y) % 2 == 0;
                tiled(3, 3, cell(x, y), !isEven ? 0 : x == 1 ? 2 : 4);
            }
        }
        for (int cells = 0; cells < 8; cells++) {
            long upright = cells & 1 | (cells & 2L) << 7 | (cells & 4L) << 14;
            int due = cells == 0 || cells == 7 ? 1 : 0;
            laid(3, 1, cells, due);
            laid(1, 3, upright, due);
            tiled(3, 1, cells, cells == 1 || cells == 4 || cells == 7 ? 1 : 0);
            tiled(1, 3, upright, cells == 1 || cells == 4 || cells == 7 ? 1 : 0);
            tiled(3, 3, cells | 7L << 8 | 7L << 16, cells == 1 || cells == 4 || cells == 7 ? 1 : 0);
            laid(3, 3, upright | 6L | 6L << 8 | 6L << 16, due);
        }
        Due.by("bit 8 y + x: the last one, 63, is a cell too");
        tiled(8, 8, cell(7, 7), 0);
        tiled(8, 8, cell(7, 7) | cell(0, 0), 0);
        tiled(8, 8, ~(cell(7, 7) | cell(6, 7)), 1);
        tiled(8, 8, ~(cell(7, 7) | cell(7, 6)), 1);
        tiled(8, 8, ~(cell(7, 7) | cell(6, 6)), 0);
        tiled(8, 8, ~cell(7, 7), 0);
        laid(8, 8, ~(cell(7, 7) | cell(6, 7) | cell(5, 7)), 1);
        laid(8, 8, ~(cell(7, 7) | cell(7, 6) | cell(7, 5)), 1);
        laid(8, 8, ~(cell(7, 7) | cell(6, 7) | cell(7, 6)), 0);
        Due.by("a BOARD without any cell has one way: nothing is laid");
        for (int size = 1; size <= 8; size++) {
            tiled(size, size, -1L, 1);
            laid(size, size, -1L, 1);
            tiled(size, 1, 255, 1);
            laid(size, 1, 255, 1);
        }
    }

    private static void outside() {
        Due.by("A BOARD is w by l cells: a bit beyond them takes none");
        tiled(2, 2, ~(cell(0, 0) | cell(1, 0) | cell(0, 1) | cell(1, 1)), 2);
        tiled(2, 1, cell(0, 1) | cell(2, 0), 1);
        tiled(1, 2, cell(1, 0) | cell(0, 2), 1);
        tiled(7, 2, cell(7, 0) | cell(7, 1), 21);
        tiled(2, 7, cell(0, 7) | cell(1, 7), 21);
        laid(3, 3, ~(7L | 7L << 8 | 7L << 16), 2);
        laid(3, 1, cell(3, 0) | cell(0, 1), 1);
        laid(1, 3, cell(1, 0) | cell(0, 3), 1);
        laid(7, 3, 1L << 63, 9);
    }

    private static void tile() {
        Due.by("22 In how many ways a BOARD is laid with pieces of two cells");
        long[][] due = {{0, 1, 0, 1, 0, 1, 0, 1}, {1, 2, 3, 5, 8, 13, 21, 34}, {0, 3, 0, 11, 0, 41, 0, 153},
            {1, 5, 11, 36, 95, 281, 781, 2245}, {0, 8, 0, 95, 0, 1183, 0, 14824}, {1, 13, 41, 281, 1183, 6728, 31529, 167089},
            {0, 21, 0, 781, 0, 31529, 0, 1292697}, {1, 34, 153, 2245, 14824, 167089, 1292697, 12988816}};
        for (int w = 1; w <= 8; w++) {
            for (int l = 1; l <= 8; l++) {
                tiled(w, l, 0, due[w - 1][l - 1]);
            }
        }
        tiled(2, 2, cell(0, 0) | cell(1, 1), 0);
        tiled(2, 2, cell(0, 0) | cell(1, 0), 1);
        tiled(3, 2, cell(1, 0) | cell(1, 1), 1);
    }

    private static void rows() {
        Due.by("23 In how many ways a BOARD is laid with pieces of three cells in a row");
        long[] due = {1, 1, 2, 3, 4, 6, 9, 13};
        for (int l = 1; l <= 8; l++) {
            laid(3, l, 0, due[l - 1]);
            laid(l, 3, 0, due[l - 1]);
        }
        for (int w : new int[] {1, 2, 4, 5, 7, 8}) {
            for (int l : new int[] {1, 2, 4, 5, 7, 8}) {
                laid(w, l, 0, 0);
            }
        }
        laid(6, 1, 0, 1);
        laid(6, 6, 0, 64);
        laid(6, 7, 0, 155);
        laid(2, 2, cell(0, 0), 0);
        laid(2, 2, cell(1, 1), 0);
        laid(4, 4, cell(0, 0), 4);
        laid(4, 4, cell(1, 1), 0);
        laid(5, 5, cell(2, 2), 2);
        laid(3, 2, cell(0, 1) | cell(1, 1) | cell(2, 1), 1);
    }

    private static void listed(int kind, int n, long due) {
        Due.is("list(" + kind + ", " + n + ")", new PlainGeometry().list(kind, n), due);
    }

    private static void list() {
        int[][] due = {{1, 2, 6, 19, 63, 216, 760, 2725}, {1, 1, 2, 7, 18, 60, 196, 704}, {1, 1, 2, 5, 12, 35, 108, 369}};
        for (int n = 1; n <= 8; n++) {
            Due.by("24 " + n + " cells: 0 as they lie, 1 also turned the same, 2 also mirrored");
            for (int kind = 0; kind < 3; kind++) {
                listed(kind, n, due[kind][n - 1]);
            }
        }
        Due.by("24 the same after other calls, and again");
        PlainGeometry x = new PlainGeometry();
        for (int turn = 0; turn < 2; turn++) {
            for (int n = 8; n >= 1; n--) {
                for (int kind = 2; kind >= 0; kind--) {
                    Due.is("list(" + kind + ", " + n + ")", x.list(kind, n), due[kind][n - 1]);
                    Due.is("a kind that there is not", x.list(4, n), -1);
                    Due.is("too many", x.list(kind, 9), -2);
                    Due.is("a board between", x.rows(3, n, 0) > 0);
                }
            }
        }
    }

    private static void holes() {
        Due.by("24 3 those of 0 with a hole");
        for (int n = 1; n <= 6; n++) {
            listed(3, n, 0);
        }
        Due.by("24 3 a hole (from which no way by sides leads away without it): seven cells around one, a corner left out");
        listed(3, 7, 4);
        Due.by("24 3 eight cells");
        listed(3, 8, 41);
    }

    private static void listWrong() {
        Due.by("24 -2");
        for (int n : BEYOND) {
            for (int kind = 0; kind < 4; kind++) {
                listed(kind, n, -2);
            }
        }
        Due.by("24 -1 kind; -2: in this order");
        for (int kind : new int[] {-1, -2, 4, 5, Make.TINY, Make.HUGE}) {
            for (int n = 1; n <= 8; n++) {
                listed(kind, n, -1);
            }
            for (int n : BEYOND) {
                listed(kind, n, -1);
            }
        }
    }

    private static void nothingChanges() {
        Due.by("Nothing is promised beyond the answers and state changes: laying and listing make nothing");
        for (int size : new int[] {0, 1, 8, 9}) {
            int s = size;
            PlainGeometry x = new PlainGeometry();
            long tiles = x.tile(s, s, 0);
            long rows = x.rows(s, s, 0);
            int many = x.list(0, s);
            Stock.refuses("tile", y -> y.tile(s, s, 0), tiles);
            Stock.refuses("rows", y -> y.rows(s, s, 0), rows);
            Stock.refuses("list", y -> y.list(0, s), many);
        }
        PlainGeometry x = new PlainGeometry();
        for (int turn = 0; turn < 3; turn++) {
            Due.is("tile again", x.tile(8, 8, 0), 12988816);
            Due.is("rows again", x.rows(8, 6, 0), 321);
            Due.is("less after more", x.tile(2, 2, 0), 2);
            Due.is("rows less after more", x.rows(3, 3, 0), 2);
            Due.is("gone ones are there again", x.tile(2, 2, -1L), 1);
        }
    }
}
