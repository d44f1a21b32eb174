/** Boundary cases of ROUTING. */
public final class RoutingEdgesTest extends Edges {
    private static final String PAIR = ".inputs a b\n.outputs a b";
    private static final String THREE = ".inputs a b c\n.outputs a b c";

    public static void main(String[] args) {
        wires();
        rounds();
        close("ROUTING");
    }

    private static void wires() {
        of("H(x, y, t) below TILE (x, y) (above the highest row for y = ROWS), track t: number (y * COLUMNS + x) * "
                + "TRACKS + t", RoutingEdgesTest::flatWires);
        of("behind all these V(x, y, t) left of TILE (x, y) (right of the last column for x = COLUMNS): (y * "
                + "(COLUMNS + 1) + x) * TRACKS + t more.", RoutingEdgesTest::uprightWires);
        of("Two WIRES of one track are NEIGHBOURS if they meet at a CORNER: corner (x, y) is the left end of H(x, "
                + "y), the right one of H(x - 1, y), the lower end of V(x, y), the upper one of V(x, y - 1).",
                RoutingEdgesTest::neighbours);
        of("A TILE TOUCHES the WIRES below, above, left and right of it (SIDES 0 to 3), all tracks; a PAD those "
                + "between it and the field.", RoutingEdgesTest::touches);
    }

    private static void rounds() {
        of("for each NET in order: it gives up its WIRES (and what is DRIVEN and JOINED for them)",
                RoutingEdgesTest::givesUp);
        of("a WIRE has a COST (1 + PAST) * (1 + (r - 1) * OTHERS), OTHERS being how many other NETS have it",
                RoutingEdgesTest::cost);
        of("a WIRE that the NET has is at distance 0", RoutingEdgesTest::hadAlready);
        of("any other one at its COST and, if the source TOUCHES it, nothing more, else (or if that is less) the "
                + "least distance of a NEIGHBOUR.", RoutingEdgesTest::distance);
        of("The SINK's END is that of the WIRES it TOUCHES that is nearest (of those the least number).",
                RoutingEdgesTest::end);
        of("From there back: the NET gets the WIRE, unless it has it; if it had it, it is done; if the source "
                + "TOUCHES it and its distance is its COST, the source DRIVES it, and it is done",
                RoutingEdgesTest::driven);
        of("else it is JOINED with the NEIGHBOUR whose distance is less by its COST (the least number), and that "
                + "is next.", RoutingEdgesTest::joined);
        of("Behind a ROUND the routing is done if no WIRE is had by two NETS", RoutingEdgesTest::done);
        of("else PAST (0 at first) of each that is had by n of them becomes n - 1 more.", RoutingEdgesTest::past);
        of("If it is not done in as many ROUNDS as it may have, and there are at most TRACKS NETS: all WIRES are "
                + "given up, each NET n is routed once more, with WIRES of track n alone, COST 1.",
                RoutingEdgesTest::tracks);
        of("(Without NETS ROUND 1 does it.)", RoutingEdgesTest::withoutNets);
    }

    private static int wireOfPad(int columns, int rows, int tracks, int p, int t) {
        Board b = new Board(columns, rows, 1, tracks);
        b.setInput(p, t, true);
        return onlyHigh(b);
    }

    private static int wireOfTile(int columns, int rows, int tracks, int tile, int side, int t) {
        Board b = new Board(columns, rows, 1, tracks);
        b.setSource(tile, side, t);
        return onlyHigh(b);
    }

    /** The number of the one wire that has LEVEL 1; -2 if there are more. */
    private static int onlyHigh(Board b) {
        int only = NONE;
        for (int w = 0; w < b.wires(); w++) if (b.f.probe(0, w) == 1) only = only == NONE ? w : -2;
        return only;
    }

    private static void flatWires() {
        for (int t = 0; t < 2; t++) {
            for (int x = 0; x < 3; x++) {
                due("below column " + x, wireOfPad(3, 2, 2, 2 * x, t), x * 2 + t);
                due("above column " + x, wireOfPad(3, 2, 2, 6 + 2 * x, t), (2 * 3 + x) * 2 + t);
                for (int y = 0; y < 2; y++) {
                    int tile = y * 3 + x;
                    due("below tile " + tile, wireOfTile(3, 2, 2, tile, Board.BELOW, t), (y * 3 + x) * 2 + t);
                    due("above tile " + tile, wireOfTile(3, 2, 2, tile, Board.ABOVE, t), ((y + 1) * 3 + x) * 2 + t);
                }
            }
        }
        lastWire(23, 419);
    }

    private static void uprightWires() {
        for (int t = 0; t < 2; t++) {
            for (int y = 0; y < 2; y++) {
                due("left of row " + y, wireOfPad(3, 2, 2, 12 + 2 * y, t), 18 + y * 8 + t);
                due("right of row " + y, wireOfPad(3, 2, 2, 16 + 2 * y, t), 18 + (y * 4 + 3) * 2 + t);
                for (int x = 0; x < 3; x++) {
                    int tile = y * 3 + x;
                    due("left of tile " + tile, wireOfTile(3, 2, 2, tile, Board.LEFT, t), 18 + (y * 4 + x) * 2 + t);
                    due("right of tile " + tile, wireOfTile(3, 2, 2, tile, Board.RIGHT, t),
                            18 + (y * 4 + x + 1) * 2 + t);
                }
            }
        }
        lastWire(47, 839);
    }

    /** The last track of a pad of the largest field. */
    private static void lastWire(int p, int wire) {
        Board b = new Board(6, 6, 4, 10);
        b.setInput(p, 9, true);
        for (int w = wire - 100; w <= Math.min(wire + 100, 839); w++)
            due("wire " + w, b.f.probe(0, w), w == wire ? 1 : 0);
    }

    /** Routes an input at one pad to an output at another: the wires, in order of their numbers. */
    private static void way(int columns, int rows, int from, int to, int... wires) {
        GateField f = with(".inputs a\n.outputs a", columns, rows, 1, 1);
        movePad(f, 0, from);
        movePad(f, 200, to);
        due("in one ROUND", f.route(1), 1);
        int[] want = new int[f.look(10)];
        java.util.Arrays.fill(want, NONE);
        for (int w : wires) want[w] = 0;
        row("from pad " + from + " to pad " + to, ownersOf(f), want);
    }

    /** 2 x 2 tiles, one track: H(x, y) is 2 y + x, V(x, y) is 6 + 3 y + x. */
    private static void neighbours() {
        way(2, 2, 0, 2, 0, 1);
        way(2, 2, 0, 8, 0, 6);
        way(2, 2, 0, 10, 0, 6, 9);
        way(2, 2, 0, 12, 0, 1, 8);
        way(2, 2, 0, 4, 0, 4, 6, 9);
        way(2, 2, 0, 6, 0, 5, 7, 10);
        way(2, 2, 8, 12, 0, 1, 6, 8);
        way(2, 2, 10, 14, 2, 3, 9, 11);
        way(2, 2, 10, 4, 4, 9);
        way(2, 2, 14, 6, 5, 11);
        way(2, 2, 14, 12, 8, 11);
        way(1, 1, 0, 2, 0, 1, 2);
        way(1, 1, 4, 6, 0, 2, 3);
    }

    private static void touches() {
        int[] pads = {0, 2, 4, 6};
        for (int side = 0; side < 4; side++) {
            for (int k = 0; k < 2; k++) {
                GateField f = with(".names y\n1\n.outputs y", 1, 1, 1, 1);
                movePad(f, 200, pads[side] + k);
                due("route", f.route(1), 1);
                due("one wire", f.look(14), 1);
                due("END at the side " + side, f.net(0, 3), side);
            }
        }
        way(1, 1, 0, 1, 0);
        way(1, 1, 7, 6, 3);
        GateField f = with(".inputs" + many("i", 4) + "\n.names i0 i1 i2 i3 y\n1111 1", 1, 1, 1, 10);
        due("all tracks", f.route(20) > 0, true);
        int[] ends = {f.net(0, 3), f.net(1, 3), f.net(2, 3), f.net(3, 3)};
        for (int i = 0; i < 4; i++) due("below or above", ends[i] / 10, i / 2);
        due("two tracks", ends[0] != ends[1] && ends[2] != ends[3], true);
    }

    /**
     * One tile, two tracks: H 0 and 1 below, 2 and 3 above, V 4 and 5 left, 6 and 7 right. a and b from below to above.
     * ROUND 1: both have 0, 4, 2: PAST 1. ROUND 2: a has track 1, all COSTS 1: 1, 5, 3; for b 2, 1, 2 by 0, 6, 2 and by
     * 1, 7, 3, so that its END is 2.
     */
    private static GateField pair() {
        GateField f = with(PAIR, 1, 1, 1, 2);
        due("two ROUNDS", f.route(20), 2);
        return f;
    }

    private static void givesUp() {
        GateField f = pair();
        row("owners", ownersOf(f), 1, 0, 1, 0, NONE, 0, 1, NONE);
        f.burn();
        Board b = new Board(f, 1, 1, 1, 2);
        int[] ones = {b.pad(0), b.padDrives(0, 1), b.pad(1), b.padDrives(1, 0), b.pad(2) + 1, b.padEnd(2) + 1,
            b.pad(3) + 1, b.padEnd(3), b.joint(0, 0, 1, Board.RIGHT_UPPER), b.joint(1, 0, 0, Board.LEFT_UPPER),
            b.joint(0, 1, 1, Board.RIGHT_LOWER), b.joint(1, 1, 0, Board.LEFT_LOWER)};
        int[] want = new int[b.bits()];
        for (int i : ones) want[i] = 1;
        for (int i = 0; i < want.length; i++) due("bit " + i, f.bit(i), want[i]);
        f = with(THREE, 1, 1, 1, 3);
        due("one NET after the other, not all at once", f.route(20), 3);
        row("owners", ownersOf(f), 1, 0, NONE, NONE, 0, 2, 1, 0, 2, NONE, NONE, NONE);
        for (int[] k : new int[][] {{6, 6, 2}, {4, 5, 3}, {1, 6, 10}}) besideAll(k[0], k[1], k[2]);
    }

    /** a and b from each place to the next one of its side: on track 0 first, then on 1 and, if there is one, 2. */
    private static void besideAll(int columns, int rows, int tracks) {
        Board b = new Board(columns, rows, 1, tracks);
        int other = tracks > 2 ? 2 : 0;
        int[] sides = {0, columns, 2 * columns, 2 * columns + rows, 2 * columns + 2 * rows};
        for (int side = 0; side < 4; side++) {
            for (int k = sides[side]; k + 1 < sides[side + 1]; k++) {
                GateField f = with(PAIR, columns, rows, 1, tracks);
                int[] what = {0, 1, 200, 201};
                for (int i = 0; i < 4; i++) movePad(f, what[i], 2 * k + i);
                due("ROUNDS at place " + k, f.route(20), 2);
                for (int p = 2 * k; p < 2 * k + 4; p += 2)
                    row("at place " + k, new int[] {f.owner(b.padWire(p, 1)), f.owner(b.padWire(p, other))}, 0, 1);
                due("wires", f.look(14), 4);
            }
        }
    }

    /**
     * One tile, two tracks. ROUND 1: a from the right to above and left has 6, 2, 4, b from below to the left 0, 4:
     * PAST of 4 is 1. ROUND 2: for a 4 COSTS (1 + 1) * (1 + 1), more than the way 7, 1, 5.
     */
    private static void cost() {
        GateField f = with(".inputs a b\n.outputs a b a", 1, 1, 1, 2);
        movePad(f, 201, 5);
        movePad(f, 0, 7);
        due("in two ROUNDS", f.route(2), 2);
        row("a has the way 7, 1, 5 to the left", ownersOf(f), 1, 0, 0, NONE, 1, 0, 0, 0);
        f = with(THREE, 1, 2, 1, 2);
        f.swap(true, 2, 6, MOST);
        due("OTHERS are counted", f.route(4), 3);
        row("owners", ownersOf(f), 0, 1, NONE, NONE, 0, NONE, 2, 1, 0, NONE, 2, NONE, 0, NONE);
        row("in ROUND 1 OTHERS do not count", ownersOf(pair()), 1, 0, 1, 0, NONE, 0, 1, NONE);
    }

    /** 1 x 1, one track: the second SINK finds wires that the NET has. */
    private static void hadAlready() {
        GateField f = with(".inputs a\n.outputs a a a", 1, 1, 1, 1);
        movePad(f, 200, 2);
        movePad(f, 201, 3);
        movePad(f, 202, 7);
        due("route", f.route(1), 1);
        due("above", f.net(0, 3), 1);
        due("above: had already", f.net(0, 4), 1);
        due("right: a NEIGHBOUR of one that it has", f.net(0, 5), 3);
        due("0, 2, 1 and 3", f.net(0, 2), 4);
        f = with(".inputs a b\n.outputs a b a", 1, 1, 1, 2);
        movePad(f, 1, 4);
        due("in two ROUNDS", f.route(20), 2);
        row("wire 0 would be as cheap for the second SINK", ownersOf(f), NONE, 0, 1, 0, 1, 0, NONE, NONE);
        due("its END", f.net(0, 4), 1);
    }

    private static void distance() {
        GateField f = with(".names y\n1\n.outputs y y", 2, 1, 1, 1);
        movePad(f, 200, 2);
        movePad(f, 201, 9);
        due("route", f.route(1), 1);
        due("a wire that the source does not touch", f.net(0, 3), 1);
        due("a wire that it touches", f.net(0, 4), 4);
        row("0, then 1; and 4", ownersOf(f), 0, 0, NONE, NONE, 0, NONE, NONE);
        way(6, 1, 0, 22, 0, 7, 8, 9, 10, 11, 13);
        f = with(".inputs a\n.outputs a", 6, 6, 1, 10);
        movePad(f, 0, 0);
        movePad(f, 200, 47);
        due("the farthest", f.route(1), 1);
        due("six flat ones and six upright", f.look(14), 12);
    }

    private static void end() {
        GateField f = with(".names q d\n0 1\n.latch d q", 1, 1, 1, 2);
        due("route", f.route(1), 1);
        due("its own pin: all eight are as near", f.net(0, 3), 0);
        f = with(".inputs a\n.names a y\n1 1", 1, 1, 1, 3);
        movePad(f, 0, 5);
        f.route(1);
        due("the least of the left ones", f.net(0, 3), 6);
        f = with(".inputs a\n.names a y\n1 1", 2, 1, 1, 1);
        f.swap(false, 0, 1, MOST);
        f.route(1);
        due("of H(1, 0) and V(1, 0)", f.net(0, 3), 1);
        f = with(".inputs a\n.names a y\n1 1", 2, 2, 1, 1);
        movePad(f, 0, 15);
        f.route(1);
        due("of H(0, 1), V(1, 0): the least", f.net(0, 3), 2);
        f = with(".inputs a\n.outputs a", 1, 1, 1, 2);
        f.route(1);
        due("of both tracks", f.net(0, 3), 0);
    }

    /** The LUT's tile touches all four: each output's wire is driven, although it could be joined. */
    private static void driven() {
        GateField f = with(".names y\n1\n.outputs y y y", 1, 1, 1, 1);
        movePad(f, 200, 0);
        movePad(f, 201, 4);
        movePad(f, 202, 5);
        due("route", f.route(1), 1);
        row("0 and 2", ownersOf(f), 0, NONE, 0, NONE);
        f.burn();
        Board b = new Board(f, 1, 1, 1, 1);
        for (int side = 0; side < 4; side++)
            due("driven " + side, f.bit(b.drives(0, side, 0)), side == Board.BELOW || side == Board.LEFT ? 1 : 0);
        for (int i = b.joint(0, 0, 0, 0); i < b.bits(); i++) due("joined", f.bit(i), 0);
        f = with(".inputs a\n.outputs a a", 1, 1, 1, 1);
        movePad(f, 201, 4);
        f.route(1);
        f.burn();
        due("a wire that the source does not touch is joined", f.bit(b.joint(0, 0, 0, Board.RIGHT_UPPER)), 1);
        due("driven", f.bit(b.padDrives(0, 0)), 1);
    }

    private static void joined() {
        way(1, 1, 0, 3, 0, 1, 2);
        way(1, 1, 2, 0, 0, 1, 2);
        way(1, 1, 4, 6, 0, 2, 3);
        way(2, 1, 4, 0, 0, 2, 4);
        way(2, 1, 6, 2, 1, 3, 5);
        GateField f = with(".inputs a\n.outputs a", 1, 1, 1, 1);
        movePad(f, 200, 3);
        f.route(1);
        f.burn();
        Board b = new Board(f, 1, 1, 1, 1);
        int[] joints = {b.joint(0, 0, 0, Board.RIGHT_UPPER), b.joint(0, 1, 0, Board.RIGHT_LOWER)};
        int ones = 0;
        for (int i = b.joint(0, 0, 0, 0); i < b.bits(); i++) ones += f.bit(i);
        due("joints", ones, 2);
        for (int i : joints) due("joined", f.bit(i), 1);
    }

    private static void done() {
        GateField f = with(".inputs a b\n.outputs a b", 1, 1, 1, 1);
        movePad(f, 1, 4);
        movePad(f, 200, 1);
        movePad(f, 201, 5);
        due("two NETS apart", f.route(20), 1);
        row("owners", ownersOf(f), 0, NONE, 1, NONE);
        due("one wire for two", with(".inputs a b\n.outputs a b", 1, 1, 1, 1).route(20), 0);
        due("wire 0 alone for two", with(".inputs a b\n.names a b y\n11 1", 1, 1, 1, 1).route(20), 0);
        f = with(".inputs a b\n.names a b y\n11 1", 1, 1, 1, 1);
        movePad(f, 0, 6);
        movePad(f, 1, 7);
        due("the last wire alone for two", f.route(20), 0);
        due("two ROUNDS", pair().look(13), 2);
        f = with(PAIR, 1, 1, 1, 2);
        due("done in the last ROUND that there may be", f.route(2), 2);
        row("no tracks of their own", ownersOf(f), 1, 0, 1, 0, NONE, 0, 1, NONE);
    }

    /**
     * One tile, two tracks: a and b from below to above, c from left to left. ROUND 1: 0 and 2 are had by two, 4 by
     * all three: PAST 1, 1, 2. ROUND 2: a has 1, 5, 3, b 0, 6, 2; for c 4 COSTS 3, 5 COSTS 2: PAST of 5 is 1.
     * ROUND 3: a has 1, 7, 3.
     */
    private static void past() {
        GateField f = with(THREE, 1, 1, 1, 2);
        f.swap(true, 4, 2, MOST);
        due("n - 1 more", f.route(20), 3);
        row("owners", ownersOf(f), 1, 0, 1, 0, NONE, 2, 1, 0);
        due("0 at first, once more", f.route(20), 3);
        row("owners", ownersOf(f), 1, 0, 1, 0, NONE, 2, 1, 0);
        f = with(PAIR, 1, 1, 1, 2);
        movePad(f, 0, 4);
        due("one NET alone: 0 more", f.route(20), 2);
        row("owners", ownersOf(f), 1, NONE, 1, 0, NONE, 0, 1, NONE);
    }

    private static void tracks() {
        GateField f = with(PAIR, 1, 1, 1, 2);
        due("two NETS, two tracks", f.route(1), 2);
        row("COST 1, PAST does not count", ownersOf(f), 0, 1, 0, 1, 0, 1, NONE, NONE);
        due("two NETS, one track", with(PAIR, 1, 1, 1, 1).route(1), 0);
        due("three NETS, two tracks", with(THREE, 1, 1, 1, 2).route(1), 0);
        due("three NETS, three tracks", with(THREE, 1, 1, 1, 3).route(1), 2);
        String ten = ".inputs" + many("i", 10) + "\n.outputs" + many("i", 10);
        f = with(ten, 3, 2, 1, 10);
        due("ten NETS, ten tracks", f.route(1), 2);
        int had = 0;
        for (int n = 0; n < 10; n++) {
            due("END of NET " + n, f.net(n, 3) % 10, n);
            had += f.net(n, 2);
        }
        due("wires", f.look(14), had);
        int[] owners = ownersOf(f);
        for (int w = 0; w < owners.length; w++) if (owners[w] != NONE) due("track of wire " + w, w % 10, owners[w]);
        f = with(".inputs" + many("i", 5) + "\n.outputs" + many("i", 5), 1, 4, 1, 5);
        movePad(f, 4, 18);
        movePad(f, 204, 19);
        due("five NETS, five tracks", f.route(1), 2);
        row("the last one has the last wire", new int[] {f.net(4, 2), f.net(4, 3), f.owner(64)}, 1, 64, 4);
        due("ten NETS, nine tracks", with(ten, 3, 2, 1, 9).route(1), 0);
        f = with(THREE, 1, 1, 1, 3);
        due("not done in two", f.route(2), 3);
        row("each on its track", new int[] {f.net(0, 3) % 3, f.net(1, 3) % 3, f.net(2, 3) % 3}, 0, 1, 2);
        due("done in three", f.route(3), 3);
        row("not on their tracks", new int[] {f.net(0, 3) % 3, f.net(1, 3) % 3, f.net(2, 3) % 3}, 1, 0, 2);
    }

    private static void withoutNets() {
        for (String text : new String[] {"", ".inputs a", ".names y\n1", ".inputs a\n.names y\n.latch y q"}) {
            GateField f = with(text, 1, 1, 1, 1);
            due("NETS", f.look(7), 0);
            due("route(1)", f.route(1), 1);
            due("route(20)", f.route(20), 1);
            due("routed", f.look(12), 2);
            due("wires", f.look(14), 0);
            due("burn", f.burn(), true);
        }
    }
}
