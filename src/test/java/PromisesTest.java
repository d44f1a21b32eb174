import java.util.Set;
import java.util.TreeSet;

/** The promises one by one; what is due was worked out by hand from the document. */
public final class PromisesTest {
    private static final int NONE = -1;
    private static int wrong;
    private static int promise;

    /** On a field of 2 x 1 tiles, 2 elements, 2 tracks: y is LUT 0, q an element of its own. */
    private static final String AND = ".inputs a b\n.outputs y q\n.names a b y\n11 1\n.latch y q 1\n.end\n";
    private static final String COUNTER = ".inputs up\n.outputs q0 q1 c\n.latch d0 q0\n.latch d1 q1 1\n"
            + ".names up q0 d0\n10 1\n01 1\n.names up q0 q1 d1\n110 1\n0-1 1\n-01 1\n.names q0 q1 c\n11 1\n";

    public static void main(String[] args) {
        Runnable[] tests = {PromisesTest::newObject, PromisesTest::feed, PromisesTest::end, PromisesTest::compile,
            PromisesTest::look, PromisesTest::lut, PromisesTest::element, PromisesTest::net, PromisesTest::tile,
            PromisesTest::pad, PromisesTest::swap, PromisesTest::shake, PromisesTest::route, PromisesTest::owner,
            PromisesTest::burn, PromisesTest::bit, PromisesTest::flip, PromisesTest::start, PromisesTest::level,
            PromisesTest::tick, PromisesTest::probe, PromisesTest::drive, PromisesTest::clock, PromisesTest::value,
            PromisesTest::out};
        for (promise = 1; promise <= tests.length; promise++) tests[promise - 1].run();
        System.out.println(wrong + " wrong of the promises 1 to " + tests.length);
        if (wrong > 0) System.exit(1);
    }

    private static void due(String what, int got, int want) {
        if (got != want) {
            wrong++;
            System.out.println("promise " + promise + ": " + what + " answered " + got + ", due is " + want);
        }
    }

    private static void due(String what, boolean got, boolean want) {
        due(what, got ? 1 : 0, want ? 1 : 0);
    }

    private static GateField with(String text, int c, int r, int e, int t) {
        GateField f = new GateField(c, r, e, t);
        due("compile of " + text, Texts.compile(f, text), 0);
        return f;
    }

    private static GateField and() {
        return with(AND, 2, 1, 2, 2);
    }

    private static GateField routed() {
        GateField f = and();
        due("route(3)", f.route(3), 3);
        return f;
    }

    private static GateField burnt() {
        GateField f = routed();
        due("burn", f.burn(), true);
        return f;
    }

    private static void flips(GateField f, int... bits) {
        for (int i : bits) f.flip(i);
    }

    private static void newObject() {
        int[][] fields = {{3, 2, 2, 3, 20, 51, 1044}, {1, 1, 1, 1, 8, 4, 126}, {0, -5, 0, Integer.MIN_VALUE, 8, 4, 126},
            {6, 6, 4, 10, 48, 840, 15516}, {7, 100, 5, Integer.MAX_VALUE, 48, 840, 15516}, {2, 1, 2, 2, 12, 14, 368}};
        for (int[] k : fields) {
            GateField f = new GateField(k[0], k[1], k[2], k[3]);
            due("pads", f.look(9), k[4]);
            due("wires", f.look(10), k[5]);
            due("bits", f.look(11), k[6]);
            due("compiled", f.look(12), 0);
            due("place", f.look(0), NONE);
            due("clocks", f.look(15), 0);
            due("ticks", f.look(16), 0);
            for (int i = 0; i < k[6]; i++) due("bit " + i, f.bit(i), 0);
            for (int w = 0; w < k[5]; w++) due("wire " + w, f.probe(0, w), 0);
            due("latch", f.probe(3, 0), 0);
            due("the tape", f.end(0), 0);
        }
        GateField f = new GateField(1, 1, 1, 1);
        flips(f, 46, 52);
        due("levels of pads", f.probe(0, 0), 0);
    }

    private static void feed() {
        GateField f = new GateField(1, 1, 1, 1);
        f.feed(0x2e696e70, 0x75747320, 0x61620a2e, 0x6f757470, 0x75747320);
        due("end", f.end(20), 20);
        f.feed(0x61620a41, 0, 0, 0, 0);
        due("end", f.end(3), 23);
        due("bytes in their order", f.compile(), 0);
        due("inputs", f.look(1), 1);
        due("outputs", f.look(4), 1);
        due("0 at first", new GateField(1, 1, 1, 1).end(1), NONE);
        f.feed(0x20202020, 0x20202020, 0x20202020, 0x20202020, 0x20202020);
        due("a wrong n", f.end(21), NONE);
        due("ready still", f.end(0), 0);
        due("0 behind an end that answers a number", f.end(1), NONE);
        f.feed(0x80808080, 0, 0, 0, 0);
        f.feed(0x20ffffff, 0, 0, 0, 0);
        due("the latest feed", f.end(1), 1);
    }

    private static void end() {
        GateField f = new GateField(1, 1, 1, 1);
        for (int b = 0; b < 256; b++) {
            boolean may = b == 9 || b == 10 || b >= 32 && b <= 126;
            f = new GateField(1, 1, 1, 1);
            f.feed(0x20200000 | b << 8, 0, 0, 0, 0);
            due("byte " + b, f.end(3), may ? 3 : NONE);
            due("what stands behind byte " + b, f.end(2), may ? NONE : 2);
        }
        int s = 0x20202020;
        for (int k = 1; k <= 199; k++) {
            f.feed(s, s, s, s, s);
            f.end(20);
        }
        f.feed(s, s, s, s, s);
        due("-1", f.end(-1), NONE);
        due("21", f.end(21), NONE);
        due("least", f.end(Integer.MIN_VALUE), NONE);
        due("most", f.end(Integer.MAX_VALUE), NONE);
        due("18", f.end(18), 4000);
        f.feed(s, s, s, s, s);
        due("more than 4000", f.end(1), NONE);
        due("none more", f.end(0), 4000);
        due("a tape of blanks", f.compile(), 0);
        due("an empty tape", f.end(0), 0);
    }

    private static void fault(GateField f, String text, int number, int place) {
        due("compile of " + text, Texts.compile(f, text), number);
        due("place of " + text, f.look(0), place);
        due("compiled: " + text, f.look(12), number == 0 ? 1 : 0);
    }

    private static void compile() {
        GateField f = new GateField(6, 6, 4, 1);
        readingFaults(f);
        coverFaults(f);
        nameFaults(f);
        laterFaults(f);
        fault(f, AND, 0, NONE);
        fault(f, "wrong", 1, 0);
        due("nothing compiled then", f.look(1), NONE);
        due("nothing compiled then", f.lut(0, 4), NONE);
        due("nothing compiled then", f.tile(0), NONE);
        due("nothing compiled then", f.element(0, 2), NONE);
        due("nothing compiled then", f.net(0, 0), NONE);
        due("nothing compiled then", f.pad(0), NONE);
        due("nothing compiled then", f.drive(0, true), false);
        due("nothing compiled then", f.clock(0), false);
        due("nothing compiled then", f.out(1), NONE);
        for (int s : new int[] {0, 200, 400}) due("nothing compiled then", f.value(s), NONE);
        f = burnt();
        f.drive(0, true);
        f.clock(3);
        f.swap(false, 0, 1, 99);
        f.route(5);
        f.tick(2);
        fault(f, AND, 0, NONE);
        due("nothing routed", f.look(12), 1);
        due("placed as at first", f.tile(0), 0);
        due("inputs 0", f.value(0), 0);
        due("latches INITIAL", f.value(200), 1);
        due("clocks", f.look(15), 0);
        due("the field stays", f.look(16), 2);
        due("the field stays", f.bit(3), 1);
    }

    private static void readingFaults(GateField f) {
        fault(f, "", 0, NONE);
        fault(f, "# only\n\n \t\n#", 0, NONE);
        fault(f, ".inputs", 1, 7);
        fault(f, ".inputs # c", 1, 11);
        fault(f, ".inputs\n.what", 1, 7);
        fault(f, ".outputs \n", 1, 9);
        fault(f, ".latch", 1, 6);
        fault(f, ".latch a#b\n", 1, 10);
        fault(f, ".inputs a\n.latch a q 2", 1, 21);
        fault(f, ".inputs a\n.latch a q 1 1", 1, 23);
        fault(f, ".inputs a\n.latch a q 01", 1, 21);
        fault(f, ".inputs a\n.latch a q 1", 0, NONE);
        fault(f, ".names", 1, 6);
        fault(f, " .foo", 1, 1);
        fault(f, ".inputsa", 1, 0);
        fault(f, "hello", 1, 0);
        fault(f, ".inputs a .b", 1, 10);
        fault(f, ".latch .d q", 1, 7);
        fault(f, ".end x", 1, 5);
        fault(f, ".end#x\nwhat ever\n.inputs", 0, NONE);
        fault(f, "\t.inputs\ta#b\n.outputs a", 0, NONE);
    }

    private static void coverFaults(GateField f) {
        fault(f, ".names y\n11", 1, 9);
        fault(f, ".names y\n1 1", 1, 11);
        fault(f, ".names y\n-", 1, 9);
        fault(f, ".names y\n\n # x\n1", 0, NONE);
        fault(f, "1", 1, 0);
        fault(f, ".names y\n1\n1\n0", 3, 13);
        fault(f, ".inputs a\n1 1", 1, 10);
        String head = ".inputs a\n.names a y\n";
        fault(f, head + "1", 1, 22);
        fault(f, head + "1 # c\n1 1", 1, 26);
        fault(f, head + "11 1", 1, 21);
        fault(f, head + "x 1", 1, 21);
        fault(f, head + "1 2", 1, 23);
        fault(f, head + "1 1 1", 1, 25);
        fault(f, head + "1 1\n0 0", 3, 27);
        fault(f, head + "1 1\n0 0 0", 3, 27);
        fault(f, head + "1 1\n.outputs y\n0 1", 1, 36);
        fault(f, head + "1 1\n.end 1", 1, 30);
    }

    private static void nameFaults(GateField f) {
        fault(f, ".inputs abcdefghijkl", 0, NONE);
        fault(f, ".inputs abcdefghijklm", 2, 8);
        fault(f, ".inputs .bcdefghijklm", 1, 8);
        fault(f, ".inputs a a", 3, 10);
        fault(f, ".inputs a\n.latch a a", 3, 19);
        fault(f, ".inputs a\n.latch a a 2", 3, 19);
        fault(f, ".latch thirteenbytes .q", 2, 7);
        fault(f, ".latch .d thirteenbytes", 1, 7);
        fault(f, ".inputs a\n.names a", 3, 17);
        fault(f, ".latch a a\n.inputs a", 3, 19);
        fault(f, ".names a\n.names a", 3, 16);
        fault(f, ".names a b c d e f g h i", 4, 7);
        fault(f, ".names a b c d e f g h i j", 2, 23);
        fault(f, ".names a b c d e f g h .i j", 1, 23);
        fault(f, ".names a b c d e f g h i .j", 2, 23);
        fault(f, ".names a b c d e f g h i # j\n.inputs a b c d e f g h", 0, NONE);
        GateField least = new GateField(1, 1, 1, 1);
        fault(least, ".inputs a b c d e f g h", 0, NONE);
        fault(least, ".inputs a b c d e f g h i", 2, 24);
        fault(least, ".inputs a b c d e f g h a", 2, 24);
        fault(least, ".inputs a b c d e f g\n.outputs a a", 2, 33);
        StringBuilder many = new StringBuilder(".inputs");
        for (int i = 0; i < 48; i++) many.append(" i").append(i);
        many.append("\n");
        for (int i = 0; i < 102; i++) many.append(".names n").append(i).append("\n");
        fault(f, many.toString(), 0, NONE);
        fault(f, many + ".latch n0 q", 2, many.length() + 10);
        fault(f, many + ".latch n0 n1", 3, many.length() + 10);
    }

    private static void laterFaults(GateField f) {
        fault(f, ".outputs y", 4, 9);
        fault(f, ".latch d q\n.outputs z", 4, 7);
        fault(f, ".outputs z\n.names u v", 4, 9);
        fault(f, ".names a a\n.outputs z", 4, 20);
        fault(f, ".names x y\n.inputs x", 0, NONE);
        fault(f, ".names a a", 5, 0);
        fault(f, "\n .names b a\n.names a b", 5, 2);
        fault(f, ".inputs i\n.names i x\n.names y y", 5, 21);
        fault(f, ".latch y q\n.names q y\n0 1", 0, NONE);
        GateField least = new GateField(1, 1, 1, 1);
        fault(least, ".names a\n.names b", 6, NONE);
        fault(least, ".names a\n.names b\n.names c c", 5, 18);
        fault(least, ".names y\n.latch y q", 0, NONE);
        fault(least, ".names y\n.latch y q\n.outputs y", 6, NONE);
        fault(least, ".inputs a b c d e\n.names a b c d e y\n11111 1", 6, NONE);
        fault(least, ".inputs a b c d e\n.names a b c d e y\n1-111 1", 0, NONE);
    }

    private static void look() {
        GateField f = and();
        int[] due = {NONE, 2, 1, 1, 2, 2, 1, 4, 6, 12, 14, 368, 1, 0, 0, 0, 0};
        for (int k = 0; k < due.length; k++) due("look(" + k + ")", f.look(k), due[k]);
        for (int k : new int[] {NONE, 17, Integer.MIN_VALUE, Integer.MAX_VALUE}) due("look(" + k + ")", f.look(k), NONE);
        f.route(20);
        due("routed", f.look(12), 2);
        due("rounds", f.look(13), 3);
        due("wires had", f.look(14), 7);
        f.clock(4);
        f.clock(1000);
        due("clocks", f.look(15), 1004);
        f.tick(7);
        due("ticks", f.look(16), 7);
        f.route(2);
        due("nothing routed", f.look(12), 1);
        due("rounds", f.look(13), 0);
        due("wires had", f.look(14), 0);
        Texts.compile(f, ".what");
        for (int k = 1; k <= 8; k++) due("look(" + k + ") of nothing", f.look(k), NONE);
        due("look(0)", f.look(0), 0);
        due("look(12)", f.look(12), 0);
        due("clocks", f.look(15), 0);
    }

    private static void row(String what, int[] got, int... want) {
        for (int i = 0; i < want.length; i++) due(what + ", " + i, got[i], want[i]);
    }

    private static int[] lutRow(GateField f, int l) {
        return new int[] {f.lut(l, 0), f.lut(l, 1), f.lut(l, 2), f.lut(l, 3), f.lut(l, 4)};
    }

    private static void oneLut(String cover, int... want) {
        GateField f = with(".inputs a b\n" + cover, 1, 1, 4, 1);
        due("one LUT", f.look(3), 1);
        row(cover, lutRow(f, 0), want);
    }

    private static void lut() {
        oneLut(".names a b y\n11 1", 0, 1, NONE, NONE, 34952);
        oneLut(".names a b y\n11 0", 0, 1, NONE, NONE, 30583);
        oneLut(".names b a y\n1- 1", 1, NONE, NONE, NONE, 43690);
        oneLut(".names b a y\n-1 1\n-1 1", 0, NONE, NONE, NONE, 43690);
        oneLut(".names a a y\n10 1", 0, 0, NONE, NONE, 8738);
        oneLut(".names a b y\n1- 1\n0- 1", NONE, NONE, NONE, NONE, 65535);
        oneLut(".names a b y", NONE, NONE, NONE, NONE, 0);
        oneLut(".names y\n1", NONE, NONE, NONE, NONE, 65535);
        oneLut(".names y\n0", NONE, NONE, NONE, NONE, 0);
        oneLut(".names b a b a b y\n1---1 0", 1, 1, NONE, NONE, 30583);
        GateField f = with(".inputs a b c d e\n.names a b c d e y\n11111 1", 2, 2, 4, 1);
        due("LUTs", f.look(3), 3);
        row("low", lutRow(f, 0), NONE, NONE, NONE, NONE, 0);
        row("high", lutRow(f, 1), 0, 1, 2, 3, 32768);
        row("choice", lutRow(f, 2), 400, 401, 4, NONE, 51914);
        f = with(".names b c\n1 1\n.inputs a\n.names a b\n0 1\n.latch b q\n.names q a c d\n111 1", 2, 2, 4, 1);
        row("by NUMBERS", lutRow(f, 0), 0, NONE, NONE, NONE, 21845);
        row("by NUMBERS", lutRow(f, 1), 400, NONE, NONE, NONE, 43690);
        row("by NUMBERS", lutRow(f, 2), 200, 0, 401, NONE, 32896);
        due("none such", f.lut(3, 4), NONE);
        due("none such", f.lut(-1, 4), NONE);
        due("none such", f.lut(0, 5), NONE);
        due("none such", f.lut(0, -1), NONE);
        f = with(".inputs a b c d e f g h\n.names a b c d e f g h y\n10101010 1\n01010101 1", 6, 6, 4, 1);
        due("eight INS", f.look(3), 15);
        row("the last one", lutRow(f, 14), 406, 413, 7, NONE, 51914);
    }

    private static int[] elementRow(GateField f, int e) {
        return new int[] {f.element(e, 0), f.element(e, 1), f.element(e, 2), f.element(e, 3)};
    }

    private static void element() {
        GateField f = and();
        row("LUT", elementRow(f, 0), 0, NONE, 0, 0);
        row("a latch alone", elementRow(f, 1), NONE, 0, 0, 1);
        row("none such", elementRow(f, 2), NONE, NONE, NONE, NONE);
        due("none such", f.element(0, 4), NONE);
        due("none such", f.element(0, -1), NONE);
        due("none such", f.element(-1, 0), NONE);
        f = with(".inputs a\n.names a d\n0 1\n.latch d q\n.outputs q", 1, 1, 1, 1);
        due("one", f.look(5), 1);
        row("both", elementRow(f, 0), 0, 0, 0, 0);
        f = with(".inputs a\n.names a d\n0 1\n.latch d q\n.latch d r", 1, 1, 4, 1);
        row("D of two latches", elementRow(f, 0), 0, NONE, 0, 0);
        row("first", elementRow(f, 1), NONE, 0, 0, 1);
        row("second", elementRow(f, 2), NONE, 1, 0, 2);
        f = with(".inputs a\n.latch a q\n.names d\n.latch d r\n.latch q s", 1, 1, 4, 1);
        row("in the LUT's", elementRow(f, 0), 0, 1, 0, 0);
        row("first left", elementRow(f, 1), NONE, 0, 0, 1);
        row("then", elementRow(f, 2), NONE, 2, 0, 2);
        f = with(".inputs a b c d\n.names a b w\n11 1\n.names c d x\n11 1\n.names c d y\n11 1\n.names a b z\n11 1", 2, 2, 2, 1);
        row("begins", elementRow(f, 0), 0, NONE, 0, 0);
        row("shares two nets", elementRow(f, 3), 3, NONE, 0, 1);
        row("begins the next", elementRow(f, 1), 1, NONE, 1, 0);
        row("is left", elementRow(f, 2), 2, NONE, 1, 1);
        f = with(".inputs a b c\n.names a x\n1 1\n.names b y\n1 1\n.names c z\n1 1", 2, 2, 2, 1);
        row("none shared: the first", elementRow(f, 1), 1, NONE, 0, 1);
        f = with(".inputs a b c d\n.names a b w\n11 1\n.names b b b c x\n1010 1\n1001 1\n.names a b y\n10 1", 2, 2, 2, 1);
        row("each net once", elementRow(f, 2), 2, NONE, 0, 1);
    }

    private static int[] netRow(GateField f, int n) {
        int[] row = new int[7];
        for (int k = 0; k < row.length; k++) row[k] = f.net(n, k);
        return row;
    }

    private static void net() {
        GateField f = and();
        row("a", netRow(f, 0), 0, 1, 0, NONE, NONE);
        row("b", netRow(f, 1), 1, 1, 0, NONE);
        row("q", netRow(f, 2), 200, 1, 0, NONE);
        row("y", netRow(f, 3), 400, 2, 0, NONE, NONE, NONE);
        row("none such", netRow(f, 4), NONE, NONE, NONE, NONE);
        row("none such", netRow(f, -1), NONE, NONE, NONE, NONE);
        f.route(3);
        row("a", netRow(f, 0), 0, 1, 1, 0, NONE);
        row("b", netRow(f, 1), 1, 1, 1, 1, NONE);
        row("q", netRow(f, 2), 200, 1, 2, 3, NONE);
        row("y", netRow(f, 3), 400, 2, 3, 4, 2, NONE);
        due("net(0, -1)", f.net(0, -1), NONE);
        due("the most", f.net(0, Integer.MAX_VALUE), NONE);
        f = with(".inputs a b\n.names b n\n0 1\n.latch n q\n.outputs q b q", 1, 1, 4, 1);
        due("a latch in its LUT's element: no net between", f.look(7), 2);
        row("pins, then outputs", netRow(f, 0), 1, 2);
        row("an output twice", netRow(f, 1), 200, 2);
    }

    private static void tile() {
        GateField f = with(".inputs a\n.names a x\n1 1\n.names a y\n0 1\n", 3, 1, 1, 1);
        due("tile 0", f.tile(0), 0);
        due("tile 1", f.tile(1), 1);
        due("none on it", f.tile(2), NONE);
        due("none such", f.tile(3), NONE);
        due("none such", f.tile(-1), NONE);
        f.swap(false, 0, 2, 99);
        due("tile 0", f.tile(0), NONE);
        due("tile 2", f.tile(2), 0);
        due("nothing compiled", new GateField(1, 1, 1, 1).tile(0), NONE);
    }

    private static void pad() {
        GateField f = and();
        int[] want = {0, 1, 200, 201, NONE};
        for (int p = 0; p < want.length; p++) due("pad " + p, f.pad(p), want[p]);
        due("none such", f.pad(12), NONE);
        due("none such", f.pad(-1), NONE);
        f.swap(true, 3, 11, 99);
        due("pad 3", f.pad(3), NONE);
        due("pad 11", f.pad(11), 201);
        due("nothing compiled", new GateField(1, 1, 1, 1).pad(0), NONE);
    }

    private static void swap() {
        GateField f = routed();
        due("undone", f.swap(true, 0, 11, 0), 6);
        due("undone", f.pad(0), 0);
        due("what was routed is no more", f.look(12), 1);
        due("slack 1", f.swap(true, 0, 11, 1), 7);
        due("at pad 11", f.pad(11), 0);
        due("back", f.swap(true, 11, 0, -1), 6);
        due("not longer, slack -1", f.swap(false, 0, 1, -1), 6);
        due("undone", f.tile(0), 0);
        due("not longer, slack 0", f.swap(false, 0, 1, 0), 6);
        due("stays", f.tile(1), 0);
        due("two that are empty", f.swap(true, 8, 9, Integer.MIN_VALUE), 6);
        f.route(20);
        due("one with itself", f.swap(false, 1, 1, -5), 6);
        due("no more", f.look(12), 1);
        f.route(20);
        for (int k : new int[] {NONE, 2, Integer.MAX_VALUE, Integer.MIN_VALUE}) {
            due("none such", f.swap(false, k, 0, 9), NONE);
            due("none such", f.swap(false, 0, k, 9), NONE);
            due("none such", f.swap(true, k == 2 ? 12 : k, 0, 9), NONE);
            due("none such", f.swap(true, 0, k == 2 ? 12 : k, 9), NONE);
        }
        due("routed still", f.look(12), 2);
        due("nothing compiled", new GateField(2, 2, 2, 2).swap(false, 0, 1, 9), NONE);
    }

    private static void shake() {
        GateField f = routed();
        due("none", f.shake(1 << 9, 0), 6);
        due("routed still", f.look(12), 2);
        due("-1", f.shake(0, -1), NONE);
        due("1001", f.shake(0, 1001), NONE);
        due("routed still", f.look(12), 2);
        due("tiles", f.shake(1 << 9, 1), 6);
        due("tile", f.tile(1), 0);
        due("routed no more", f.look(12), 1);
        f = and();
        due("tiles modulo", f.shake(254 << 1 | 255 << 9, 1), 6);
        due("tile", f.tile(1), 0);
        f = and();
        due("pads", f.shake(1 | 11 << 9, 1), 6);
        due("undone", f.pad(0), 0);
        due("pads, slack 1", f.shake(1 | 11 << 9 | 1 << 17, 1), 7);
        due("pad", f.pad(11), 0);
        due("pads modulo, slack 7", f.shake(1 | 251 << 1 | 252 << 9 | -1 << 17, 1), 6);
        due("pad", f.pad(0), 0);
        GateField g = and();
        f = and();
        int coin = 123456789;
        int length = 0;
        for (int k = 0; k < 1000; k++) {
            length = f.shake(coin, 1);
            coin = coin * 1103515245 + 12345;
        }
        due("a thousand", g.shake(123456789, 1000), length);
        for (int p = 0; p < 12; p++) due("pad " + p, g.pad(p), f.pad(p));
        due("nothing compiled", new GateField(2, 2, 2, 2).shake(0, 0), NONE);
    }

    private static void route() {
        GateField f = and();
        due("0", f.route(0), NONE);
        due("21", f.route(21), NONE);
        due("in three", f.route(3), 3);
        due("NONE, and all stays", f.route(-1), NONE);
        due("NONE, and all stays", f.look(12), 2);
        due("in twenty", f.route(20), 3);
        due("can't be in two", f.route(2), 0);
        due("nothing is routed", f.look(12), 1);
        f = with(AND, 2, 1, 2, 4);
        due("each has a track", f.route(1), 2);
        due("rounds", f.look(13), 2);
        row("a", netRow(f, 0), 0, 1, 1, 0);
        row("b", netRow(f, 1), 1, 1, 1, 1);
        row("q", netRow(f, 2), 200, 1, 2, 6);
        row("y", netRow(f, 3), 400, 2, 2, 3, 7);
        due("driven", f.owner(2), 2);
        f = with(".inputs a\n", 1, 1, 1, 1);
        due("without nets", f.route(20), 1);
        due("routed", f.look(12), 2);
        f = with(".inputs a\n.outputs a", 1, 1, 1, 1);
        due("one net", f.route(1), 1);
        due("nothing compiled", new GateField(2, 2, 2, 2).route(1), NONE);
    }

    private static void owner() {
        GateField f = routed();
        int[] want = {0, 1, 3, 2, 3, NONE, NONE, NONE, NONE, NONE, 3, 2, NONE, NONE, NONE};
        for (int w = 0; w < want.length; w++) due("owner " + w, f.owner(w), want[w]);
        due("none such", f.owner(-1), NONE);
        due("none such", f.owner(Integer.MAX_VALUE), NONE);
        f.swap(false, 0, 0, 0);
        due("nothing routed", f.owner(0), NONE);
    }

    private static void burn() {
        GateField f = and();
        f.flip(100);
        due("nothing routed", f.burn(), false);
        due("all stays", f.bit(100), 1);
        f.tick(3);
        f.route(3);
        due("burn", f.burn(), true);
        Set<Integer> ones = new TreeSet<>();
        for (int i : new int[] {3, 7, 11, 15, 18, 25, 44, 48, 51, 53, 55, 57, 59, 61, 63, 65, 66, 67, 68, 69, 99,
            200, 206, 208, 215, 217, 218, 225, 227, 312, 318}) ones.add(i);
        for (int i = 0; i < 368; i++) due("bit " + i, f.bit(i), ones.contains(i) ? 1 : 0);
        due("started", f.look(16), 0);
        due("INITIAL", f.probe(3, 1), 1);
        due("not used", f.probe(3, 0), 0);
        Texts.compile(f, ".what");
        due("nothing compiled", f.burn(), false);
        f = with(".inputs a", 1, 1, 1, 1);
        f.route(1);
        f.burn();
        due("an input without a net", f.bit(46), 1);
        due("an input without a net", f.bit(52), 0);
    }

    private static void bit() {
        GateField f = burnt();
        due("bit 3", f.bit(3), 1);
        due("bit 4", f.bit(4), 0);
        due("the last", f.bit(367), 0);
        due("none such", f.bit(368), NONE);
        due("none such", f.bit(-1), NONE);
    }

    private static void flip() {
        GateField f = burnt();
        due("turned", f.flip(3), 0);
        due("is so", f.bit(3), 0);
        due("turned back", f.flip(3), 1);
        due("the last", f.flip(367), 1);
        due("none such", f.flip(368), NONE);
        due("none such", f.flip(-1), NONE);
        f.level(0, true);
        f.level(1, true);
        due("y", f.probe(1, 2), 1);
        f.flip(3);
        due("y by another table", f.probe(1, 2), 0);
        f.flip(67);
        due("INITIAL alone: the latch stays", f.probe(3, 1), 1);
    }

    private static void start() {
        GateField f = burnt();
        f.tick(2);
        due("a is 0", f.probe(3, 1), 0);
        f.start();
        due("INITIAL", f.probe(3, 1), 1);
        due("no ticks", f.look(16), 0);
        f.flip(17);
        due("not yet", f.probe(3, 0), 0);
        f.start();
        due("not used, too", f.probe(3, 0), 1);
        due("OUT is the LUT", f.probe(2, 0), 0);
    }

    private static void level() {
        GateField f = burnt();
        due("pad 0", f.level(0, true), true);
        due("pad 1", f.level(1, true), true);
        due("y", f.probe(1, 2), 1);
        due("pad 1", f.level(1, false), true);
        due("y", f.probe(1, 2), 0);
        due("an output: it counts not", f.level(2, true), true);
        due("y", f.probe(1, 2), 0);
        due("none such", f.level(12, true), false);
        due("none such", f.level(-1, true), false);
        f.level(1, true);
        f.start();
        f.burn();
        due("levels stay", f.probe(1, 2), 1);
        f.flip(201);
        due("3 counts as 0", f.probe(1, 2), 0);
        f.flip(201);
        due("1 again", f.probe(1, 2), 1);
        due("the last", f.level(11, true), true);
    }

    /** A LUT that is not what it drives: restless, unless its latch is used. */
    private static GateField ring() {
        GateField f = new GateField(1, 1, 1, 1);
        flips(f, 0, 2, 4, 6, 8, 10, 12, 14, 18, 42);
        return f;
    }

    private static void tick() {
        GateField f = burnt();
        due("none", f.tick(0), 0);
        due("q", f.probe(1, 3), 1);
        due("one", f.tick(1), 1);
        due("q takes y", f.probe(1, 3), 0);
        f.level(0, true);
        f.level(1, true);
        due("q still", f.probe(1, 3), 0);
        due("a thousand", f.tick(1000), 1000);
        due("q takes y", f.probe(1, 3), 1);
        due("all ticks", f.look(16), 1001);
        due("-1", f.tick(-1), NONE);
        due("1001", f.tick(1001), NONE);
        f = ring();
        due("restless", f.tick(5), 0);
        due("none of none", f.tick(0), 0);
        f.flip(16);
        due("with a latch", f.tick(5), 5);
        due("five times turned", f.probe(3, 0), 1);
        due("with a latch", f.tick(999), 999);
        due("as often as that", f.probe(3, 0), 0);
        restlessLater();
    }

    /** Element 0's latch takes 1 once; element 1 is restless as soon as that is 1. */
    private static void restlessLater() {
        GateField f = new GateField(1, 1, 2, 2);
        for (int n = 0; n < 16; n++) f.flip(n);
        f.flip(16);
        f.flip(42);
        int e = 50;
        for (int n = 0; n < 16; n++) if ((n & 3) == 1) f.flip(e + n);
        flips(f, e + 18, e + 25, e + 43);
        due("one, then none", f.tick(9), 1);
        due("ticks", f.look(16), 1);
        due("restless", f.probe(2, 0), -2);
        due("its latch", f.probe(3, 0), 1);
    }

    private static void probe() {
        GateField f = ring();
        due("wire, restless", f.probe(0, 0), -2);
        due("OUT, restless", f.probe(2, 0), -2);
        due("latch", f.probe(3, 0), 0);
        due("none such, asked first", f.probe(0, 4), NONE);
        due("no output, asked first", f.probe(1, 0), NONE);
        f.flip(47);
        due("an output, restless", f.probe(1, 0), -2);
        for (int what : new int[] {-1, 4, Integer.MAX_VALUE}) due("what " + what, f.probe(what, 0), NONE);
        for (int what = 0; what < 4; what++) {
            due("none such", f.probe(what, -1), NONE);
            due("none such", f.probe(what, what == 0 ? 4 : what == 1 ? 8 : 1), NONE);
        }
        joints();
        lutsFirst();
        numbersOfNoWire();
        longChain();
    }

    private static void joints() {
        GateField f = new GateField(1, 1, 1, 1);
        flips(f, 46, 52);
        f.level(0, true);
        due("driven", f.probe(0, 0), 1);
        due("not joined", f.probe(0, 2), 0);
        flips(f, 102, 103, 104, 105);
        due("no such wires", f.probe(0, 2), 0);
        f.flip(106);
        due("joined", f.probe(0, 2), 1);
        f.flip(110);
        due("joined", f.probe(0, 3), 1);
        f.flip(114 + 3);
        due("joined by ways", f.probe(0, 1), 1);
        flips(f, 120 + 1, 106);
        due("the other way round", f.probe(0, 2), 1);
        f.flip(114 + 3);
        due("not at all", f.probe(0, 2), 0);
        due("still", f.probe(0, 1), 1);
    }

    /** A LUT that drives its own pin holds nothing: all are 0 before the field settles. */
    private static void lutsFirst() {
        GateField f = new GateField(1, 1, 1, 1);
        flips(f, 1, 3, 5, 7, 9, 11, 13, 15, 18, 42, 46, 52);
        due("0", f.probe(2, 0), 0);
        f.level(0, true);
        due("by the pad", f.probe(2, 0), 1);
        f.level(0, false);
        due("0 again", f.probe(2, 0), 0);
    }

    private static void numbersOfNoWire() {
        GateField f = new GateField(1, 1, 1, 1);
        flips(f, 46, 52, 0, 20);
        f.level(0, true);
        due("pin 0 at the side right", f.probe(2, 0), 1);
        f.flip(110);
        due("that side is joined", f.probe(2, 0), 0);
        flips(f, 0, 110);
        flips(f, 1, 3, 5, 7, 9, 11, 13, 15, 20, 18);
        due("pin 0 below", f.probe(2, 0), 1);
        f.flip(20);
        due("pin 0 at 5", f.probe(2, 0), 0);
        flips(f, 54, 55);
        due("an output at track 0", f.probe(1, 1), 1);
        flips(f, 55, 56);
        due("an output at 2", f.probe(1, 1), 0);
        f.flip(56);
        due("an output at 0", f.probe(1, 1), 0);
    }

    /** As many sweeps as there are elements change something, the one more does not. */
    private static void longChain() {
        GateField f = new GateField(2, 1, 1, 2);
        for (int n = 0; n < 16; n++) f.flip(n);
        f.flip(48);
        for (int n = 1; n < 16; n += 2) f.flip(50 + n);
        flips(f, 68, 70, 96);
        due("settled", f.probe(2, 1), 1);
    }

    private static void drive() {
        GateField f = and();
        due("a", f.drive(0, true), true);
        due("b", f.drive(1, true), true);
        due("y", f.out(0), 1);
        due("b", f.drive(1, false), true);
        due("y", f.out(0), 0);
        due("the field has its own", f.probe(0, 0), 0);
        due("none such", f.drive(2, true), false);
        due("none such", f.drive(-1, true), false);
        due("a latch is none", f.drive(200, true), false);
        due("nothing compiled", new GateField(1, 1, 1, 1).drive(0, true), false);
    }

    private static void clock() {
        GateField f = with(COUNTER, 2, 2, 2, 4);
        int[] want = {2, 2, 2, 3, 0, 1, 2};
        for (int k = 0; k < want.length; k++) {
            due("both bits at " + k, f.value(200) + 2 * f.value(201), want[k]);
            if (k == 2) f.drive(0, true);
            due("one", f.clock(1), true);
        }
        due("all at once", f.value(200) + 2 * f.value(201), 3);
        due("none", f.clock(0), true);
        due("a thousand", f.clock(1000), true);
        due("a thousand", f.value(200) + 2 * f.value(201), 3);
        due("clocks", f.look(15), 1007);
        due("-1", f.clock(-1), false);
        due("1001", f.clock(1001), false);
        due("clocks", f.look(15), 1007);
        f = with(".latch a b\n.latch b a 1", 1, 1, 2, 1);
        f.clock(3);
        due("at once", f.value(200) + 2 * f.value(201), 1);
        due("nothing compiled", new GateField(1, 1, 1, 1).clock(0), false);
    }

    private static void value() {
        GateField f = and();
        f.drive(0, true);
        f.drive(1, true);
        due("input", f.value(0), 1);
        due("latch", f.value(200), 1);
        due("LUT", f.value(400), 1);
        for (int s : new int[] {-1, 2, 199, 201, 399, 401, Integer.MAX_VALUE, Integer.MIN_VALUE})
            due("value(" + s + ")", f.value(s), NONE);
        f.drive(0, false);
        due("input", f.value(0), 0);
        due("LUT", f.value(400), 0);
        f.clock(1);
        due("latch", f.value(200), 0);
        due("nothing compiled", new GateField(1, 1, 1, 1).value(0), NONE);
    }

    private static void out() {
        GateField f = and();
        due("y", f.out(0), 0);
        due("q", f.out(1), 1);
        due("none such", f.out(2), NONE);
        due("none such", f.out(-1), NONE);
        f.clock(1);
        due("q", f.out(1), 0);
        f = with(".inputs a b c d e\n.outputs y a y\n.names a b c d e y\n1---1 1\n-0-0- 1\n00--- 1", 3, 3, 2, 4);
        for (int n = 0; n < 32; n++) {
            for (int i = 0; i < 5; i++) f.drive(i, (n >> i & 1) == 1);
            boolean y = (n & 17) == 17 || (n & 10) == 0 || (n & 3) == 0;
            due("y at " + n, f.out(0), y ? 1 : 0);
            due("an input", f.out(1), n & 1);
            due("y again", f.out(2), y ? 1 : 0);
        }
        due("nothing compiled", new GateField(1, 1, 1, 1).out(0), NONE);
    }
}
