/** Boundary cases of MAPPING and PACKING. */
public final class PackingEdgesTest extends Edges {
    private static final String EIGHT = ".inputs a b c d e f g h\n.names a b c d e f g h y\n";
    private static final int CHOICE = 51914;
    private static final int SAME = 43690;

    public static void main(String[] args) {
        mapping();
        packing();
        close("MAPPING and PACKING");
    }

    private static void mapping() {
        of("SOURCES: input i is i, latch j 200 + j (both as they come in the text), LUT l 400 + l.",
                PackingEdgesTest::sources);
        of("A LUT has up to four pins with SOURCES, and a TABLE of 16 bits: bit n is its value for pins that have "
                + "the bits of n (pin 0 the lowest; pins without a source are 0; the table does not depend on "
                + "them).", PackingEdgesTest::tables);
        of("INS on which it does not depend are left out", PackingEdgesTest::leftOut);
        of("if four or fewer are left: a LUT with these, in their order.", PackingEdgesTest::fourOrFewer);
        of("Else, x being the last: the function for x 0 is MAPPED (of the others), then that for x 1, then a LUT "
                + "of three pins: the first one's, the second one's, x; it is the second one where x is 1, else "
                + "the first one.", PackingEdgesTest::moreThanFour);
        of("LUTS have their numbers as they are made; that which is made last is the SOURCE of the NAME.",
                PackingEdgesTest::lastMade);
    }

    private static void packing() {
        of("A latch whose D is a LUT that nothing else uses (no other latch, no pin, no output, by SOURCES) lies "
                + "in that LUT's ELEMENT", PackingEdgesTest::latchInLut);
        of("each other latch has an ELEMENT of its own, behind those, as they come; its LUT is pin 0, its D (TABLE "
                + "43690).", PackingEdgesTest::latchAlone);
        of("NETS: of each SOURCE, by its number, that a pin of an ELEMENT (of its own, too) or an output uses",
                PackingEdgesTest::nets);
        of("its SINKS: pins by ELEMENTS and pins, then outputs, as they come.", PackingEdgesTest::sinks);
        of("An ELEMENT TOUCHES a NET that it makes, or that a pin of it uses.", PackingEdgesTest::touches);
        of("CLUSTERS: as long as ELEMENTS are left, the first one begins a CLUSTER", PackingEdgesTest::clusters);
        of("until it has as many as a TILE has: that which is left that TOUCHES most NETS that one in the CLUSTER "
                + "TOUCHES (each counted once), the first one of these.", PackingEdgesTest::closest);
    }

    private static GateField large(String text) {
        return with(text, 6, 6, 4, 1);
    }

    private static void sources() {
        GateField f = large(".latch a q\n.inputs a\n.latch b r 1\n.inputs b\n.names b q r x\n111 1");
        row("b, q, r", lutOf(f, 0), 1, 200, 201, NONE, 32896);
        due("r", f.value(201), 1);
        f.drive(1, true);
        due("b", f.value(1), 1);
        f = large(".inputs" + many("i", 48) + "\n.names i47 y\n1 1");
        due("the last input that there can be", f.lut(0, 0), 47);
        f = large(latches(144) + "\n.outputs q143");
        due("the last latch that there can be", f.net(1, 0), 343);
        f = large(luts(144) + "\n.outputs n143");
        due("the last LUT that there can be", f.net(0, 0), 543);
    }

    private static void table(String ins, String cover, int pins, int table) {
        GateField f = large(".inputs a b c d\n.names" + ins + " y\n" + cover);
        int[] want = {NONE, NONE, NONE, NONE, table};
        for (int p = 0; p < pins; p++) want[p] = p;
        row(cover, lutOf(f, 0), want);
    }

    private static void tables() {
        table("", "", 0, 0);
        table("", "1", 0, 65535);
        table(" a", "1 1", 1, SAME);
        table(" a", "0 1", 1, 21845);
        table(" a b", "10 1", 2, 8738);
        table(" a b", "01 1", 2, 17476);
        table(" a b", "11 1", 2, 34952);
        table(" a b c", "001 1", 3, 4112);
        table(" a b c", "111 1", 3, 32896);
        table(" a b c d", "0000 1", 4, 1);
        table(" a b c d", "1000 1", 4, 2);
        table(" a b c d", "0001 1", 4, 256);
        table(" a b c d", "1111 1", 4, 32768);
        table(" a b c d", "1111 0", 4, 32767);
    }

    private static void leftOut() {
        row("the first alone", lutOf(large(EIGHT + "1------- 1"), 0), 0, NONE, NONE, NONE, SAME);
        row("the last alone", lutOf(large(EIGHT + "-------1 1"), 0), 7, NONE, NONE, NONE, SAME);
        row("first and last", lutOf(large(EIGHT + "1------1 1"), 0), 0, 7, NONE, NONE, 34952);
        row("none", lutOf(large(EIGHT + "-------- 1"), 0), NONE, NONE, NONE, NONE, 65535);
        row("none, by two lines", lutOf(large(EIGHT + "1------- 1\n0------- 1"), 0), NONE, NONE, NONE, NONE, 65535);
        row("none, by two lines of 0", lutOf(large(EIGHT + "1------- 0\n0------- 0"), 0), NONE, NONE, NONE, NONE, 0);
        row("d, e by lines that leave them open", lutOf(large(EIGHT + "1--0---- 1\n1--11--- 1\n1--10--- 1"), 0),
                0, NONE, NONE, NONE, SAME);
        row("one NAME twice: both count", lutOf(large(".inputs a b\n.names a b a y\n1-0 1"), 0),
                0, 0, NONE, NONE, 8738);
        due("one LUT each time", large(EIGHT + "1------1 1").look(3), 1);
    }

    private static void fourOrFewer() {
        row("four of four", lutOf(large(".inputs a b c d\n.names d c b a y\n1111 1"), 0), 3, 2, 1, 0, 32768);
        GateField f = large(EIGHT + "-1-0-1-1 1");
        due("one LUT", f.look(3), 1);
        row("four of eight", lutOf(f, 0), 1, 3, 5, 7, 1 << 13);
        f = large(".inputs a b c d e\n.names e d c b a y\n111-1 1");
        row("four of five", lutOf(f, 0), 4, 3, 2, 0, 32768);
        due("five of five: no longer one", large(".inputs a b c d e\n.names e d c b a y\n11111 1").look(3), 3);
    }

    private static void moreThanFour() {
        GateField f = large(EIGHT + "1-1-1-11 1");
        due("five of eight", f.look(3), 3);
        row("for x 0", lutOf(f, 0), NONE, NONE, NONE, NONE, 0);
        row("for x 1", lutOf(f, 1), 0, 2, 4, 6, 32768);
        row("the choice", lutOf(f, 2), 400, 401, 7, NONE, CHOICE);
        f = large(".inputs a b c d e f\n.names a b c d e f y\n1----0 1\n111111 1");
        due("six", f.look(3), 5);
        row("for f 0 it is a", lutOf(f, 0), 0, NONE, NONE, NONE, SAME);
        row("for f 1, e 0", lutOf(f, 1), NONE, NONE, NONE, NONE, 0);
        row("for f 1, e 1", lutOf(f, 2), 0, 1, 2, 3, 32768);
        row("for f 1", lutOf(f, 3), 401, 402, 4, NONE, CHOICE);
        row("the choice", lutOf(f, 4), 400, 403, 5, NONE, CHOICE);
        f = large(EIGHT + odd());
        due("eight, all of them needed", f.look(3), 31);
        row("first", lutOf(f, 0), 0, 1, 2, 3, 27030);
        row("second, the other way round", lutOf(f, 1), 0, 1, 2, 3, 38505);
        row("the last", lutOf(f, 30), 414, 429, 7, NONE, CHOICE);
        for (int n = 0; n < 8; n++) f.drive(n, n != 3);
        due("seven ones", f.value(430), 1);
        f.drive(7, false);
        due("six ones", f.value(430), 0);
    }

    /** All lines with an odd number of ones. */
    private static String odd() {
        StringBuilder b = new StringBuilder();
        for (int n = 0; n < 256; n++) {
            if (Integer.bitCount(n) % 2 == 0) continue;
            for (int i = 0; i < 8; i++) b.append(n >> i & 1);
            b.append(" 1\n");
        }
        return b.toString();
    }

    private static void lastMade() {
        GateField f = large(".names y z\n1 1\n.inputs a b c d e\n.names a b c d e y\n11111 1\n.outputs y\n.names w\n");
        row("z has y", lutOf(f, 3), 402, NONE, NONE, NONE, SAME);
        row("w", lutOf(f, 4), NONE, NONE, NONE, NONE, 0);
        due("LUTs", f.look(3), 5);
        due("the output's NET", f.net(f.look(7) - 1, 0), 402);
    }

    private static void latchInLut() {
        String base = ".inputs a\n.names a d\n0 1\n.latch d q\n";
        GateField f = large(base);
        due("elements", f.look(5), 1);
        row("both in one", elementOf(f, 0), 0, 0, 0, 0);
        f = large(base + ".latch d r");
        row("another latch uses it", elementOf(f, 0), 0, NONE, 0, 0);
        due("elements", f.look(5), 3);
        f = large(base + ".names d x\n1 1");
        row("a pin uses it", elementOf(f, 0), 0, NONE, 0, 0);
        due("elements", f.look(5), 3);
        f = large(base + ".outputs d");
        row("an output uses it", elementOf(f, 0), 0, NONE, 0, 0);
        due("elements", f.look(5), 2);
        f = large(base + ".names d a x\n-1 1");
        row("an IN that is no pin does not use it", elementOf(f, 0), 0, 0, 0, 0);
        due("elements", f.look(5), 2);
        f = large(base + ".outputs q\n.names q x\n1 1\n.latch q r");
        row("what uses Q does not use it", elementOf(f, 0), 0, 0, 0, 0);
        f = large(".names q d\n0 1\n.latch d q");
        row("its own pin is Q", elementOf(f, 0), 0, 0, 0, 0);
    }

    private static void latchAlone() {
        GateField f = large(".inputs a\n.latch a q\n.names d\n1\n.names e\n1\n.latch e r\n.latch q s\n.latch t t\n"
                + ".outputs d");
        due("elements", f.look(5), 5);
        due("a LUT", f.element(0, 1), NONE);
        due("a LUT and latch 1", f.element(1, 1), 1);
        int[] latches = {0, 2, 3};
        for (int k = 0; k < 3; k++) {
            due("no LUT of a number", f.element(2 + k, 0), NONE);
            due("latch", f.element(2 + k, 1), latches[k]);
        }
        Board b = new Board(with(".inputs a\n.latch a q\n.outputs q", 1, 1, 1, 2), 1, 1, 1, 2);
        due("routed", b.f.route(20) > 0, true);
        b.f.burn();
        due("TABLE", b.get(b.element(0), 16), 43690);
        due("pin 0", b.get(b.pin(0, 0), 6) > 0, true);
        for (int p = 1; p < 4; p++) due("pin " + p, b.get(b.pin(0, p), 6), 0);
    }

    private static void netsOf(String text, int... sources) {
        GateField f = large(text);
        due("NETS of " + text, f.look(7), sources.length);
        for (int n = 0; n < sources.length; n++) due("SOURCE of NET " + n + " of " + text, f.net(n, 0), sources[n]);
    }

    private static void nets() {
        netsOf("");
        netsOf(".inputs a b\n.names x\n.latch b q", 1);
        netsOf(".inputs a\n.names a x\n1 1\n.latch x q", 0);
        netsOf(".names q d\n0 1\n.latch d q", 200);
        netsOf(".latch q q", 200);
        netsOf(".inputs a b\n.outputs b", 1);
        netsOf(".names x\n.latch a q\n.inputs a\n.outputs x q", 0, 200, 400);
        netsOf(".names x\n.latch x q\n.outputs x q", 200, 400);
        netsOf(".inputs a b\n.names a b x\n1- 1", 0);
        GateField f = with(".inputs a b c d e f g h\n.names a b c d x\n1111 1\n.names e f g h y\n1111 1\n"
                + ".names x y z\n11 1\n.names z q w\n11 1\n.latch w q", 1, 1, 4, 1);
        due("of all inputs and of all ELEMENTS that there can be", f.look(7), 12);
        due("the last", f.net(11, 0), 402);
        due("its SINKS", f.net(11, 1), 1);
    }

    private static int[] ends(GateField f, int n) {
        due("routed", f.route(20) > 0, true);
        int[] row = new int[f.net(n, 1)];
        for (int s = 0; s < row.length; s++) row[s] = f.net(n, 3 + s);
        return row;
    }

    /** On 2 x 1 tiles and one track: H wires 0 to 3, V wires 4 to 6. */
    private static void sinks() {
        String text = ".inputs a\n.outputs a\n.names a x\n1 1\n.names a y\n0 1";
        GateField f = with(text, 2, 1, 1, 1);
        movePad(f, 200, 8);
        row("tile 0, tile 1, the pad left", ends(f, 0), 0, 1, 4);
        f.swap(false, 0, 1, MOST);
        row("tile 1, tile 0, the pad left", ends(f, 0), 1, 0, 4);
        f = with(".inputs a\n.outputs a\n.outputs a", 2, 1, 1, 1);
        movePad(f, 200, 8);
        movePad(f, 201, 6);
        row("left, above column 1", ends(f, 0), 4, 3);
        movePad(f, 201, 10);
        movePad(f, 200, 6);
        row("above column 1, right", ends(f, 0), 3, 6);
        due("two pins and two outputs", large(".inputs a\n.names a a y\n10 1\n.outputs a a").net(0, 1), 4);
        StringBuilder full = new StringBuilder(".inputs a b c d\n.outputs").append(" a".repeat(44));
        for (int n = 0; n < 144; n++) full.append("\n.names a b c d ").append(n).append("\n1111 1");
        f = large(full.toString());
        row("as many as there can be", new int[] {f.net(0, 1), f.net(1, 1), f.net(2, 1), f.net(3, 1)},
                188, 144, 144, 144);
        due("a latch's own pin", large(".inputs a\n.latch a q\n.latch a r").net(0, 1), 2);
    }

    /** Two elements a tile: which ones are in the first cluster. */
    private static void first(String text, int... elements) {
        GateField f = with(text, 3, 3, elements.length, 1);
        for (int k = 0; k < elements.length; k++) {
            due("cluster of " + elements[k] + " in " + text, f.element(elements[k], 2), 0);
            due("place of " + elements[k] + " in " + text, f.element(elements[k], 3), k);
        }
    }

    private static void touches() {
        first(".inputs a b\n.names a x\n1 1\n.names b u\n1 1\n.names x y\n1 1", 0, 2);
        first(".inputs a b\n.names q x\n1 1\n.names b u\n1 1\n.latch a q", 0, 2);
        first(".inputs a b\n.names a x\n1 1\n.names b u\n1 1\n.names b w\n1 1\n.latch x q\n.outputs x", 0, 3);
        first(".inputs a b\n.names a x\n1 1\n.names b u\n1 1\n.names q w\n1 1\n.latch x q", 0, 2);
        first(".inputs a b c\n.names a x\n1 1\n.names b u\n1 1\n.names c a w\n11 1", 0, 2);
        first(".inputs a b\n.names a x\n1 1\n.names b u\n1 1\n.names b w\n1 1", 0, 1);
        first(".inputs a b c d e\n.names a b c d x\n1111 1\n.names e u\n1 1\n.names d w\n1 1", 0, 2);
        first(".inputs a b c d e\n.names d x\n1 1\n.names e u\n1 1\n.names a b c d w\n1111 1", 0, 2);
        first(".inputs a b c\n.names r x\n1 1\n.names a u\n1 1\n.latch b q\n.latch c r", 0, 3);
        GateField f = with(".inputs a b c\n.names a x0\n1 1\n.names a x1\n1 1\n.names b x2\n1 1\n.names c x3\n1 1\n"
                + ".names x2 x4\n1 1", 3, 1, 2, 1);
        row("begins the second cluster", elementOf(f, 2), 2, NONE, 1, 0);
        row("uses what that one makes", elementOf(f, 4), 4, NONE, 1, 1);
    }

    private static void clusterCounts(int made, int elements, int clusters) {
        GateField f = with(luts(made), 6, 1, elements, 1);
        due(made + " by " + elements, f.look(6), clusters);
        for (int e = 0; e < made; e++) {
            due("cluster of " + e, f.element(e, 2), e / elements);
            due("place of " + e, f.element(e, 3), e % elements);
        }
    }

    private static void clusters() {
        clusterCounts(0, 2, 0);
        clusterCounts(1, 4, 1);
        clusterCounts(4, 4, 1);
        clusterCounts(5, 4, 2);
        clusterCounts(5, 2, 3);
        clusterCounts(6, 1, 6);
        clusterCounts(24, 4, 6);
        GateField f = with(".inputs a b\n.names a x\n1 1\n.names b u\n1 1\n.names a w\n1 1\n.names b v\n1 1",
                2, 1, 2, 1);
        row("the first that is left begins the second", elementOf(f, 1), 1, NONE, 1, 0);
        row("and one is left", elementOf(f, 3), 3, NONE, 1, 1);
    }

    private static void closest() {
        String four = ".inputs a b c d\n.names a b x0\n11 1\n";
        first(four + ".names c d x1\n11 1\n.names c a x2\n11 1\n.names b a x3\n11 1", 0, 3);
        first(four + ".names c d x1\n11 1\n.names d b x2\n11 1\n.names c a x3\n11 1", 0, 2);
        first(four + ".names c d x1\n11 1\n.names c d x2\n10 1", 0, 1);
        first(four + ".names a a x1\n10 1\n.names b a x2\n11 1", 0, 2);
        first(four + ".names a c x1\n11 1\n.names a x2\n1 1\n.names b c x3\n11 1", 0, 1, 3);
        first(four + ".names c d x1\n11 1\n.names a d x2\n11 1\n.names c d x3\n10 1", 0, 2, 1);
        first(four + ".names b c x1\n11 1\n.names c d x2\n11 1\n.names d x3\n1 1", 0, 1, 2, 3);
    }
}
