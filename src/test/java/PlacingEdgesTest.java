/** Boundary cases of PLACING. */
public final class PlacingEdgesTest extends Edges {
    private static final String PAIR = ".inputs a\n.outputs a";

    public static void main(String[] args) {
        of("TILE y * COLUMNS + x.", PlacingEdgesTest::tiles);
        of("PADS stand two each at places: below columns 0 .. , above columns 0 .., left of rows 0 .., right of "
                + "rows 0 ..: PAD 2 k and 2 k + 1 at the k-th of these.", PlacingEdgesTest::pads);
        of("At first CLUSTER c is on TILE c; inputs, then outputs, are at PADS 0, 1, ...",
                PlacingEdgesTest::atFirst);
        of("POINTS: of a TILE (x + 1, y + 1), of PADS below (x + 1, 0), above (x + 1, ROWS + 1), left (0, y + 1), "
                + "right (COLUMNS + 1, y + 1).", PlacingEdgesTest::points);
        of("LENGTH: for all NETS half the way round the least rectangle with the points of its source and its "
                + "SINKS in it.", PlacingEdgesTest::length);
        of("A SWAP changes what is on two TILES (or PADS), and is undone if LENGTH is more than SLACK greater then.",
                PlacingEdgesTest::swap);
        of("A COIN c: bit 0 is 0: a SWAP of TILES (c >>> 1 & 255) and (c >>> 9 & 255), each modulo how many there "
                + "are, SLACK c >>> 17 & 7", PlacingEdgesTest::tileCoin);
        of("bit 0 is 1: of PADS likewise.", PlacingEdgesTest::padCoin);
        close("PLACING");
    }

    /** Input 0 is below column 0, at (1, 0); the only element is moved to each tile. */
    private static void tiles() {
        for (int y = 0; y < 3; y++) {
            for (int x = 0; x < 2; x++) {
                GateField f = with(".inputs a\n.names a y\n1 1", 2, 3, 1, 1);
                due("LENGTH at " + x + " " + y, f.swap(false, 0, y * 2 + x, MOST), x + y + 1);
                due("tile", f.tile(y * 2 + x), 0);
            }
        }
    }

    private static int[][] pointsOfPads(int columns, int rows) {
        int[][] points = new int[4 * (columns + rows)][];
        int p = 0;
        for (int x = 0; x < columns; x++) for (int k = 0; k < 2; k++) points[p++] = new int[] {x + 1, 0};
        for (int x = 0; x < columns; x++) for (int k = 0; k < 2; k++) points[p++] = new int[] {x + 1, rows + 1};
        for (int y = 0; y < rows; y++) for (int k = 0; k < 2; k++) points[p++] = new int[] {0, y + 1};
        for (int y = 0; y < rows; y++) for (int k = 0; k < 2; k++) points[p++] = new int[] {columns + 1, y + 1};
        return points;
    }

    private static void padsApart(int columns, int rows) {
        int[][] points = pointsOfPads(columns, rows);
        for (int a = 0; a < points.length; a++) {
            for (int b = 0; b < points.length; b++) {
                if (a == b) continue;
                GateField f = with(PAIR, columns, rows, 1, 1);
                movePad(f, 0, a);
                movePad(f, 200, b);
                int far = Math.abs(points[a][0] - points[b][0]) + Math.abs(points[a][1] - points[b][1]);
                due("pads " + a + " and " + b + " of " + columns + " x " + rows, f.look(8), far);
            }
        }
    }

    private static void pads() {
        padsApart(3, 2);
        padsApart(1, 1);
    }

    private static void atFirst() {
        GateField f = with(".inputs a b\n.names a x\n1 1\n.names b y\n1 1\n.names z\n.outputs z a y", 2, 2, 1, 1);
        row("tiles", new int[] {f.tile(0), f.tile(1), f.tile(2), f.tile(3)}, 0, 1, 2, NONE);
        row("pads", padsOf(f), 0, 1, 200, 201, 202, NONE, NONE, NONE, NONE, NONE, NONE, NONE, NONE, NONE, NONE, NONE);
        f = with(".outputs a d\n.inputs a b c\n.outputs x\n.inputs d e\n.names x", 1, 1, 1, 1);
        due("all tiles are full", f.tile(0), 0);
        row("all pads are full", padsOf(f), 0, 1, 2, 3, 4, 200, 201, 202);
        f = with("", 1, 1, 1, 1);
        due("nothing", f.tile(0), NONE);
        row("nothing", padsOf(f), NONE, NONE, NONE, NONE, NONE, NONE, NONE, NONE);
    }

    /** An element on each tile beside an input at each pad. */
    private static void points() {
        int[][] points = pointsOfPads(3, 2);
        for (int p = 0; p < points.length; p++) {
            GateField f = with(".inputs a\n.names a y\n1 1", 3, 2, 1, 1);
            movePad(f, 0, p);
            for (int t = 0; t < 6; t++) {
                int far = Math.abs(points[p][0] - t % 3 - 1) + Math.abs(points[p][1] - t / 3 - 1);
                if (t > 0) f.swap(false, t - 1, t, MOST);
                due("pad " + p + ", tile " + t, f.look(8), far);
            }
        }
        GateField f = with(".names x\n.names x y\n1 1", 6, 6, 1, 1);
        due("two tiles", f.swap(false, 1, 35, MOST), 10);
    }

    private static void length() {
        due("no NETS", with(".inputs a\n.names y", 2, 2, 1, 1).look(8), 0);
        due("two PADS at one place", with(PAIR, 2, 2, 1, 1).look(8), 0);
        due("a pin of its own", with(".latch q q", 2, 2, 1, 1).look(8), 0);
        GateField f = with(".inputs a\n.outputs a a", 3, 2, 1, 1);
        movePad(f, 200, 18);
        due("one at (4, 2), the others at (1, 0) and (2, 0)", f.look(8), 5);
        movePad(f, 201, 12);
        due("source (1, 0), SINKS (4, 2) and (0, 1)", f.look(8), 6);
        f = with(".inputs a b\n.outputs a b b", 3, 2, 1, 1);
        movePad(f, 200, 6);
        movePad(f, 202, 15);
        due("(1, 0) (1, 3) and (1, 0) (2, 0) (0, 2)", f.look(8), 3 + 4);
        f = with(".inputs a\n.outputs a", 6, 6, 1, 1);
        movePad(f, 0, 0);
        movePad(f, 200, 47);
        due("(1, 0) and (7, 6)", f.look(8), 12);
    }

    private static void swap() {
        GateField f = with(PAIR, 3, 2, 1, 1);
        due("2 longer, SLACK 1", f.swap(true, 1, 4, 1), 0);
        due("undone", f.pad(1), 200);
        due("2 longer, SLACK 2", f.swap(true, 1, 4, 2), 2);
        due("changed", f.pad(4), 200);
        due("changed", f.pad(1), NONE);
        due("as long, SLACK 0", f.swap(true, 4, 5, 0), 2);
        due("changed", f.pad(5), 200);
        due("1 shorter, SLACK -2", f.swap(true, 5, 3, -2), 2);
        due("undone", f.pad(5), 200);
        due("1 shorter, SLACK -1", f.swap(true, 5, 3, -1), 1);
        due("changed", f.pad(3), 200);
        due("two things", f.swap(true, 0, 3, 0), 1);
        due("changed", f.pad(0), 200);
        due("changed", f.pad(3), 0);
        due("two that are empty", f.swap(true, 18, 19, 0), 1);
        due("one with itself", f.swap(true, 3, 3, 0), 1);
        due("still there", f.pad(3), 0);
        f = with(".inputs a\n.names a x\n1 1\n.names x y\n1 1", 3, 2, 1, 1);
        due("(1, 0) (1, 1) and (1, 1) (2, 1)", f.look(8), 2);
        due("1 longer, SLACK 0", f.swap(false, 0, 1, 0), 2);
        due("undone", f.tile(0), 0);
        due("1 longer, SLACK 1", f.swap(false, 0, 1, 1), 3);
        due("changed", f.tile(1), 0);
        due("changed", f.tile(0), 1);
        due("with an empty one", f.swap(false, 0, 5, MOST), 4);
        due("changed", f.tile(0), NONE);
        due("changed", f.tile(5), 1);
    }

    private static int coin(int pads, int a, int b, int slack) {
        return pads | a << 1 | b << 9 | slack << 17;
    }

    /** Two clusters, x on tile 0 and y on tile 1 of 3 x 1: LENGTH 2 at first. */
    private static GateField two() {
        return with(".inputs a\n.names a x\n1 1\n.names x y\n1 1", 3, 1, 1, 1);
    }

    private static void tileCoin() {
        GateField f = two();
        due("0: tile 0 with itself", f.shake(0, 1), 2);
        due("tile", f.tile(0), 0);
        due("0 and 1, SLACK 0", f.shake(coin(0, 0, 1, 0), 1), 2);
        due("undone", f.tile(0), 0);
        due("0 and 1, SLACK 1", f.shake(coin(0, 0, 1, 1), 1), 3);
        due("changed", f.tile(1), 0);
        f = two();
        due("255 and 254 modulo 3", f.shake(coin(0, 255, 254, 2), 1), 4);
        row("0 and 2", new int[] {f.tile(0), f.tile(1), f.tile(2)}, NONE, 1, 0);
        f = two();
        due("253 and 4 modulo 3", f.shake(coin(0, 253, 4, 7), 1), 2);
        due("1 and 1", f.tile(1), 1);
        f = with(".names x\n.names x y\n1 1", 6, 6, 1, 1);
        due("7 longer, SLACK 7", f.shake(coin(0, 1, 6 * 5 + 3, 7), 1), 8);
        f = with(".names x\n.names x y\n1 1", 6, 6, 1, 1);
        due("8 longer, SLACK 7", f.shake(coin(0, 1, 6 * 5 + 4, 7), 1), 1);
        due("bits 20 to 31 do not count", f.shake(coin(0, 1, 6, 1) | 0xfff << 20, 1), 1);
        due("changed", f.tile(6), 1);
        f = with(".names x\n.names x y\n1 1", 6, 6, 1, 1);
        due("bit 20 is no SLACK", f.shake(coin(0, 1, 6 * 5, 8), 1), 1);
    }

    private static void padCoin() {
        GateField f = with(PAIR, 3, 2, 1, 1);
        due("1: pad 0 with itself", f.shake(1, 1), 0);
        due("pad", f.pad(0), 0);
        due("1 and 4, SLACK 1", f.shake(coin(1, 1, 4, 1), 1), 0);
        due("undone", f.pad(1), 200);
        due("1 and 4, SLACK 2", f.shake(coin(1, 1, 4, 2), 1), 2);
        due("changed", f.pad(4), 200);
        due("255 and 244 modulo 20", f.shake(coin(1, 255, 244, 7), 1), 3);
        due("15 and 4", f.pad(15), 200);
        f = with(PAIR, 6, 6, 1, 1);
        due("7 longer, SLACK 7", f.shake(coin(1, 1, 12, 7), 1), 7);
        f = with(PAIR, 6, 6, 1, 1);
        due("8 longer, SLACK 7", f.shake(coin(1, 1, 14, 7), 1), 0);
        due("all bits", f.shake(-1, 1), 0);
        due("pad 15 with itself", f.pad(15), NONE);
    }
}
