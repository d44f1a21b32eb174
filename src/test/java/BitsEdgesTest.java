/** Boundary cases of BITS and of BURNING. */
public final class BitsEdgesTest extends Edges {
    public static void main(String[] args) {
        of("BITS, one behind the other, numbers from the lowest bit on.", BitsEdgesTest::numbers);
        of("TILES in order, in each its ELEMENTS: 16 bits of the TABLE; 1: the latch is used; its INITIAL;",
                BitsEdgesTest::elements);
        of("for each pin 6 bits: 0, or 1 + SIDE * TRACKS + t of its END", BitsEdgesTest::pins);
        of("for each SIDE and track 1 if the ELEMENT's OUT drives it.", BitsEdgesTest::driven);
        of("Then PADS: 2 bits: 1 an input (also one without a NET), 2 an output, else 0 (3 counts as 0)",
                BitsEdgesTest::padKinds);
        of("4 bits: of an output 1 + t of its END, else 0", BitsEdgesTest::padEnds);
        of("for each track 1 if the input drives it.", BitsEdgesTest::padDrives);
        of("Then CORNERS, (0, 0), (1, 0), ..: for each track 6 bits: left and right wire JOINED, left and lower, "
                + "left and upper, right and lower, right and upper, lower and upper (0 where there is none such).",
                BitsEdgesTest::corners);
        of("BURNING writes the BITS of what was routed (where there is no ELEMENT, a CLUSTER's places being by the "
                + "order in which ELEMENTS came to it: 0s; the 6 bits of a pin without a source 0, the TABLE "
                + "whole).", BitsEdgesTest::burning);
        close("BITS");
    }

    private static Board burnt(GateField f, int columns, int rows, int elements, int tracks, int rounds) {
        due("routed", f.route(rounds) > 0, true);
        due("burnt", f.burn(), true);
        return new Board(f, columns, rows, elements, tracks);
    }

    private static Board burnt(String text, int columns, int rows, int elements, int tracks) {
        return burnt(with(text, columns, rows, elements, tracks), columns, rows, elements, tracks, 20);
    }

    private static void numbers() {
        Board b = burnt(".inputs a\n.names a y\n0 1", 1, 1, 1, 1);
        for (int n = 0; n < 16; n++) due("TABLE 21845, bit " + n, b.f.bit(n), 1 - n % 2);
        for (int k = 0; k < 6; k++) due("pin 0 is 1, bit " + k, b.f.bit(18 + k), k == 0 ? 1 : 0);
        int[][] fields = {{1, 1, 1, 1}, {2, 1, 2, 2}, {6, 1, 3, 10}, {6, 6, 4, 10}};
        for (int[] k : fields) {
            Board c = new Board(k[0], k[1], k[2], k[3]);
            due("how many", c.f.look(11), c.bits());
            due("the last one", c.f.bit(c.bits() - 1), 0);
            due("behind it", c.f.bit(c.bits()), NONE);
        }
    }

    private static void elements() {
        Board b = burnt(".names w\n.names x\n1\n.latch x q 1\n.latch s s\n.latch t t 1\n.names y\n1", 2, 1, 3, 3);
        int[] tables = {0, 65535, 65535, 43690, 43690, 0};
        int[] used = {0, 1, 0, 1, 1, 0};
        int[] initial = {0, 1, 0, 0, 1, 0};
        for (int e = 0; e < 6; e++) {
            due("TABLE of " + e, b.get(b.element(e), 16), tables[e]);
            due("used, " + e, b.f.bit(b.used(e)), used[e]);
            due("INITIAL of " + e, b.f.bit(b.initial(e)), initial[e]);
        }
        Board last = burnt(with(luts(3) + "\n1", 3, 1, 1, 1), 3, 1, 1, 1, 1);
        due("the last ELEMENT of the last TILE", last.get(last.element(2), 16), 65535);
        due("the first one", last.get(last.element(0), 16), 0);
    }

    /** Ten NETS, each on its own track; three LUTs on tile 1, input 9 at the right of it. */
    private static void pins() {
        String text = ".inputs" + many("i", 10) + "\n.names i0 i1 i2 i3 x\n1111 1\n.names i4 i5 i6 i7 y\n1111 1\n"
                + ".names i8 i9 z\n11 1";
        GateField f = with(text, 2, 1, 4, 10);
        f.swap(false, 0, 1, MOST);
        movePad(f, 9, 10);
        due("each NET on its track", f.route(1), 2);
        Board b = burnt(f, 2, 1, 4, 10, 1);
        int z = 4 + 2;
        due("SIDE 3, track 9", b.get(b.pin(z, 1), 6), 1 + 3 * 10 + 9);
        due("no source", b.get(b.pin(z, 2), 6), 0);
        due("no source", b.get(b.pin(z, 3), 6), 0);
        due("SIDE 0, track 2", b.get(b.pin(4, 2), 6), 1 + 2);
        due("SIDE 1, track 6", b.get(b.pin(5, 2), 6), 1 + 10 + 6);
        int[] pads = {0, 2, 4, 6};
        for (int side = 0; side < 4; side++) {
            f = with(".inputs a\n.names a y\n1 1", 1, 1, 1, 1);
            movePad(f, 0, pads[side]);
            Board one = burnt(f, 1, 1, 1, 1, 1);
            due("SIDE " + side, one.get(one.pin(0, 0), 6), 1 + side);
        }
    }

    private static void driven() {
        int[] pads = {0, 2, 4, 6};
        for (int side = 0; side < 4; side++) {
            GateField f = with(".names y\n1\n.outputs y", 1, 1, 1, 2);
            movePad(f, 200, pads[side]);
            Board b = burnt(f, 1, 1, 1, 2, 1);
            for (int k = 0; k < 8; k++) due("SIDE " + k / 2 + " track " + k % 2, f.bit(42 + k), k == 2 * side ? 1 : 0);
            due("a LUT on it", b.get(b.element(0), 16), 65535);
        }
        Board b = burnt(".names y\n1\n.names z", 1, 1, 2, 2);
        for (int e = 0; e < 2; e++) due("without a NET", b.get(b.drives(e, 0, 0), 8), 0);
        GateField f = with(".inputs a\n.latch a q\n.outputs q a", 1, 1, 1, 2);
        movePad(f, 200, 7);
        b = burnt(f, 1, 1, 1, 2, 1);
        due("a latch's OUT", b.get(b.drives(0, 0, 0), 8), 1 << 6);
    }

    private static void padKinds() {
        Board b = burnt(".inputs a b\n.outputs a", 1, 1, 1, 1);
        due("an input", b.get(b.pad(0), 2), 1);
        due("an input without a NET", b.get(b.pad(1), 2), 1);
        due("an output", b.get(b.pad(2), 2), 2);
        for (int p = 3; p < 8; p++) due("nothing at " + p, b.get(b.pad(p), 2), 0);
        Board c = new Board(1, 1, 1, 1);
        c.setInput(0, 0, true);
        c.set(c.padEnd(0), 4, 1);
        c.setSource(0, Board.ABOVE, 0);
        int[] below = {0, 1, 0, 0};
        int[] pad = {NONE, NONE, 0, NONE};
        for (int kind = 0; kind < 4; kind++) {
            c.set(c.pad(0), 2, kind);
            due("what it drives, as " + kind, c.f.probe(0, 0), below[kind]);
            due("what it shows, as " + kind, c.f.probe(1, 0), pad[kind]);
        }
    }

    private static void padEnds() {
        GateField f = with(".inputs" + many("i", 10) + "\n.outputs" + many("i", 10), 3, 2, 1, 10);
        due("each NET on its track", f.route(1), 2);
        Board b = burnt(f, 3, 2, 1, 10, 1);
        for (int t = 0; t < 10; t++) due("output " + t, b.get(b.padEnd(10 + t), 4), 1 + t);
        for (int t = 0; t < 10; t++) due("input " + t, b.get(b.padEnd(t), 4), 0);
        b = burnt(".inputs a b\n.outputs a", 1, 1, 1, 1);
        due("the output", b.get(b.padEnd(2), 4), 1);
        for (int p = 3; p < 8; p++) due("nothing at " + p, b.get(b.padEnd(p), 4), 0);
    }

    private static void padDrives() {
        GateField f = with(".inputs" + many("i", 10) + "\n.outputs" + many("i", 10), 3, 2, 1, 10);
        due("each NET on its track", f.route(1), 2);
        Board b = burnt(f, 3, 2, 1, 10, 1);
        for (int t = 0; t < 10; t++) due("input " + t, b.get(b.padDrives(t, 0), 10), 1 << t);
        for (int t = 0; t < 10; t++) due("output " + t, b.get(b.padDrives(10 + t, 0), 10), 0);
        b = burnt(".inputs a b\n.outputs b", 1, 1, 1, 2);
        due("without a NET", b.get(b.padDrives(0, 0), 2), 0);
        due("with one", b.get(b.padDrives(1, 0), 2), 1);
    }

    /** At a corner the left, right, lower and upper wire's number, or NONE. */
    private static int[] around(Board b, int x, int y, int t) {
        return new int[] {x > 0 ? b.h(x - 1, y, t) : NONE, x < b.columns ? b.h(x, y, t) : NONE,
            y > 0 ? b.v(x, y - 1, t) : NONE, y < b.rows ? b.v(x, y, t) : NONE};
    }

    private static void setHigh(Board b, int wire) {
        for (int k = 0; k < b.tiles() * 4 * b.tracks; k++) {
            int tile = k / (4 * b.tracks);
            int side = k / b.tracks % 4;
            if (b.tileWire(tile, side, k % b.tracks) != wire) continue;
            b.setSource(tile, side, k % b.tracks);
            return;
        }
    }

    /** Sets one joint's bit, and one of the wires high: which ones are high then. */
    private static void joint(int x, int y, int t, int pair, int[] two) {
        for (int from = 0; from < 4; from++) {
            Board b = new Board(2, 2, 1, 2);
            int[] four = around(b, x, y, t);
            if (four[from] == NONE) continue;
            setHigh(b, four[from]);
            due("the bit", b.f.flip(b.joint(x, y, t, pair)), 1);
            boolean there = four[two[0]] != NONE && four[two[1]] != NONE;
            for (int w = 0; w < b.wires(); w++) {
                boolean high = w == four[from];
                if (there && from == two[0]) high |= w == four[two[1]];
                if (there && from == two[1]) high |= w == four[two[0]];
                due("corner " + x + " " + y + " pair " + pair + " wire " + w, b.f.probe(0, w), high ? 1 : 0);
            }
        }
    }

    private static void corners() {
        int[][] pairs = {{0, 1}, {0, 2}, {0, 3}, {1, 2}, {1, 3}, {2, 3}};
        for (int y = 0; y <= 2; y++)
            for (int x = 0; x <= 2; x++)
                for (int t = 0; t < 2; t++)
                    for (int pair = 0; pair < 6; pair++) joint(x, y, t, pair, pairs[pair]);
        GateField f = with(".inputs a\n.outputs a", 1, 1, 1, 1);
        movePad(f, 200, 2);
        Board b = burnt(f, 1, 1, 1, 1, 1);
        int[] want = {1 << Board.RIGHT_UPPER, 0, 1 << Board.RIGHT_LOWER, 0};
        for (int k = 0; k < 4; k++) due("corner " + k, b.get(b.joint(k % 2, k / 2, 0, 0), 6), want[k]);
    }

    /** Elements 0 and 2 share a net, so that 2 comes before 1; nothing is at the third place. */
    private static void burning() {
        String text = ".inputs a b\n.names a w\n1 1\n.names b x\n0 1\n.names a b y\n11 1";
        GateField f = with(text, 2, 1, 2, 3);
        f.swap(false, 0, 1, MOST);
        for (int i = 0; i < 46; i++) f.flip(i * 7);
        Board b = burnt(f, 2, 1, 2, 3, 20);
        due("CLUSTER 1 on TILE 0", b.get(b.element(0), 16), 21845);
        due("no ELEMENT", b.get(b.element(1), 30), 0);
        due("no ELEMENT", b.get(b.element(1) + 30, 24), 0);
        due("CLUSTER 0 on TILE 1", b.get(b.element(2), 16), 43690);
        due("the one that came second", b.get(b.element(3), 16), 34952);
        due("a pin without a source", b.get(b.pin(2, 1), 18), 0);
        due("two pins without a source", b.get(b.pin(3, 2), 12), 0);
        due("pins with one", b.get(b.pin(2, 0), 6) > 0 && b.get(b.pin(3, 0), 6) > 0 && b.get(b.pin(3, 1), 6) > 0, true);
        b = burnt("", 1, 1, 1, 1);
        for (int i = 0; i < b.bits(); i++) due("of nothing, bit " + i, b.f.bit(i), 0);
    }
}
