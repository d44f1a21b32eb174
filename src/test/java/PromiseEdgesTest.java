/** Boundary cases of the promises 1 to 15, that are of the text and of what it becomes. */
public final class PromiseEdgesTest extends Edges {
    private static final int BLANKS = 0x20202020;

    public static void main(String[] args) {
        of("What it is", "An object is used for at most 512 calls after it has been made", PromiseEdgesTest::manyCalls);
        tape();
        compiling();
        looking();
        asking();
        moving();
        routing();
        close("the promises 1 to 15");
    }

    private static void tape() {
        of(1, "COLUMNS and ROWS 1 .. 6, ELEMENTS 1 .. 4, TRACKS 1 .. 10 (others count as the nearest of these)",
                PromiseEdgesTest::sizes);
        of(1, "nothing compiled, all BITS 0, all LEVELS of PADS and latches 0, the tape empty.",
                PromiseEdgesTest::newObject);
        of(2, "Puts twenty bytes ready, those of a first, the highest of each first.", PromiseEdgesTest::ready);
        of(2, "(They are 0 at first, and behind each end() that answers a number.)", PromiseEdgesTest::zeroBytes);
        of(3, "The first n of the bytes that are ready come to the tape: how many it has.",
                PromiseEdgesTest::firstBytes);
        of(3, "NONE, and nothing comes, if n is not 0 .. 20, it would have more than 4000, or one of them may not "
                + "be in a TEXT.", PromiseEdgesTest::refusedBytes);
    }

    private static void compiling() {
        of(4, "The tape is the TEXT, and empty then", PromiseEdgesTest::emptyThen);
        of(4, "it is read, mapped, packed and placed as at first", PromiseEdgesTest::asAtFirst);
        of(4, "0, or the FAULT (there is nothing compiled then).", PromiseEdgesTest::nothingCompiled);
        of(4, "Nothing is routed, inputs are 0, latches INITIAL.", PromiseEdgesTest::fresh);
        of(4, "(The field stays as it is.)", PromiseEdgesTest::fieldStays);
    }

    private static void looking() {
        of(5, "What 0: place of the latest compile()'s FAULT (NONE without)", PromiseEdgesTest::lookPlace);
        of(5, "1: inputs, 2: latches, 3: LUTS, 4: outputs, 5: ELEMENTS, 6: CLUSTERS, 7: NETS, 8: LENGTH (1 to 8: "
                + "NONE if nothing is compiled)", PromiseEdgesTest::lookCompiled);
        of(5, "9: PADS, 10: WIRES, 11: BITS of the field", PromiseEdgesTest::lookField);
        of(5, "12: 0 nothing compiled, 1 nothing routed, 2 routed", PromiseEdgesTest::lookState);
        of(5, "13: ROUNDS of the routing that stands (one more than there might be, if each NET has a track; 0 "
                + "without one)", PromiseEdgesTest::lookRounds);
        of(5, "14: WIRES that NETS have (0 without one)", PromiseEdgesTest::lookWires);
        of(5, "15: CLOCKS since the latest compile()", PromiseEdgesTest::lookClocks);
        of(5, "16: TICKS since the field was started.", PromiseEdgesTest::lookTicks);
        of(5, "NONE for another what.", PromiseEdgesTest::lookOther);
    }

    private static void asking() {
        of(6, "Of LUT l what 0 to 3: the SOURCE of a pin, 4: its TABLE. NONE if there is none such.",
                PromiseEdgesTest::lut);
        of(7, "Of an ELEMENT what 0: its LUT, 1: its latch, 2: its CLUSTER, 3: its place in that, from 0. NONE if "
                + "there is none such.", PromiseEdgesTest::element);
        of(8, "Of NET n what 0: its SOURCE, 1: how many SINKS, 2: how many WIRES it has (0 if nothing is routed), "
                + "3 and above: the END of SINK what - 3 (NONE if nothing is routed).", PromiseEdgesTest::net);
        of(8, "NONE if there is none such.", PromiseEdgesTest::noNet);
        of(9, "The CLUSTER on a TILE; NONE if there is none such, or none on it.", PromiseEdgesTest::tile);
        of(10, "What is at a PAD: input i: i, output o: 200 + o; NONE if there is none such, or nothing.",
                PromiseEdgesTest::pad);
    }

    private static void moving() {
        of(11, "A SWAP of TILES (pads: of PADS): LENGTH behind it.", PromiseEdgesTest::swap);
        of(11, "What was routed is no more (also if it is undone).", PromiseEdgesTest::swapUnroutes);
        of(11, "NONE if there is none such, or nothing is compiled.", PromiseEdgesTest::swapRefused);
        of(11, "(A SLACK below 0 counts as it is.)", PromiseEdgesTest::swapBelow);
        of(12, "n COINS: the first is c, each further one the one ahead * 1103515245 + 12345: LENGTH behind them.",
                PromiseEdgesTest::coins);
        of(12, "NONE if n is not 0 .. 1000, or nothing is compiled.", PromiseEdgesTest::shakeRefused);
        of(12, "What was routed is no more, if n is above 0.", PromiseEdgesTest::shakeUnroutes);
    }

    private static void routing() {
        of(13, "Routes, in at most so many ROUNDS: how many it took", PromiseEdgesTest::rounds);
        of(13, "one more than these if each NET has a track", PromiseEdgesTest::oneMore);
        of(13, "0, and nothing is routed, if it can't be.", PromiseEdgesTest::cannotBe);
        of(13, "NONE, and all stays, if rounds is not 1 .. 20, or nothing is compiled.",
                PromiseEdgesTest::routeRefused);
        of(14, "The NET that has a WIRE; NONE if there is none such, nothing is routed, or none has it.",
                PromiseEdgesTest::owner);
        of(15, "BURNS what is routed; the field is started: all latches INITIAL as its BITS say.",
                PromiseEdgesTest::burn);
        of(15, "False, and all stays, if nothing is routed.", PromiseEdgesTest::burnRefused);
    }

    private static GateField nothing() {
        return new GateField(2, 1, 2, 2);
    }

    /** The 512th call has its answer as the first one has. */
    private static void manyCalls() {
        GateField f = new GateField(1, 1, 1, 1);
        for (int k = 1; k < 512; k++) due("call " + k, f.flip(125), k % 2);
        due("call 512", f.bit(125), 1);
        f = new GateField(1, 1, 1, 1);
        for (int k = 1; k < 512; k++) due("call " + k, f.tick(1000), 1000);
        due("call 512", f.look(16), 511000);
    }

    private static void size(int columns, int rows, int elements, int tracks, Board same) {
        GateField f = new GateField(columns, rows, elements, tracks);
        String what = columns + " " + rows + " " + elements + " " + tracks;
        due("PADS of " + what, f.look(9), same.pads());
        due("WIRES of " + what, f.look(10), same.wires());
        due("BITS of " + what, f.look(11), same.bits());
    }

    private static void sizes() {
        for (int low : new int[] {LEAST, -1, 0, 1}) {
            size(low, 3, 2, 2, new Board(1, 3, 2, 2));
            size(3, low, 2, 2, new Board(3, 1, 2, 2));
            size(3, 3, low, 2, new Board(3, 3, 1, 2));
            size(3, 3, 2, low, new Board(3, 3, 2, 1));
        }
        for (int high : new int[] {0, 1, MOST - 10}) {
            size(6 + high, 3, 2, 2, new Board(6, 3, 2, 2));
            size(3, 6 + high, 2, 2, new Board(3, 6, 2, 2));
            size(3, 3, 4 + high, 2, new Board(3, 3, 4, 2));
            size(3, 3, 2, 10 + high, new Board(3, 3, 2, 10));
        }
        size(2, 5, 3, 9, new Board(2, 5, 3, 9));
        size(5, 2, 3, 9, new Board(5, 2, 3, 9));
    }

    private static void newObject() {
        Board b = new Board(1, 1, 2, 2);
        due("nothing compiled", b.f.look(12), 0);
        for (int i = 0; i < b.bits(); i++) due("bit " + i, b.f.bit(i), 0);
        for (int e = 0; e < 2; e++) due("latch " + e, b.f.probe(3, e), 0);
        due("the tape", b.f.end(0), 0);
        for (int p = 0; p < b.pads(); p++) {
            b.f.flip(b.pad(p));
            b.f.flip(b.padDrives(p, 0));
        }
        for (int w = 0; w < b.wires(); w++) due("the inputs' LEVEL at wire " + w, b.f.probe(0, w), 0);
        b = new Board(1, 1, 1, 1);
        due("an empty TEXT", b.f.compile(), 0);
        due("inputs", b.f.look(1), 0);
    }

    /** One byte that may not be, at each of the twenty places. */
    private static void ready() {
        for (int k = 0; k < 20; k++) {
            int[] five = {BLANKS, BLANKS, BLANKS, BLANKS, BLANKS};
            five[k / 4] |= 0x80 << 8 * (3 - k % 4);
            GateField f = new GateField(1, 1, 1, 1);
            f.feed(five[0], five[1], five[2], five[3], five[4]);
            due("with place " + k, f.end(k + 1), NONE);
            due("up to place " + k, f.end(k), k);
        }
        GateField f = new GateField(1, 1, 1, 1);
        f.feed(-1, -1, -1, -1, -1);
        f.feed(0x2e696e70, 0x75747320, 0x61206220, 0x63206420, 0x65206620);
        due("the latest ones", f.end(20), 20);
        due("compile", f.compile(), 0);
        due("a b c d e f", f.look(1), 6);
    }

    private static void zeroBytes() {
        GateField f = new GateField(1, 1, 1, 1);
        due("at first", f.end(1), NONE);
        f.feed(BLANKS, BLANKS, BLANKS, BLANKS, BLANKS);
        due("a number", f.end(3), 3);
        due("behind it", f.end(1), NONE);
        f.feed(BLANKS, BLANKS, BLANKS, BLANKS, BLANKS);
        due("no byte, but a number", f.end(0), 3);
        due("behind it", f.end(1), NONE);
        f.feed(BLANKS, BLANKS, BLANKS, BLANKS, BLANKS);
        due("no number", f.end(21), NONE);
        due("no number", f.end(-1), NONE);
        due("still ready", f.end(20), 23);
    }

    private static void firstBytes() {
        for (int n = 0; n <= 20; n++) {
            GateField f = new GateField(1, 1, 1, 1);
            f.feed(BLANKS, BLANKS, BLANKS, BLANKS, BLANKS);
            due("end(" + n + ")", f.end(n), n);
            f.feed(BLANKS, BLANKS, BLANKS, BLANKS, BLANKS);
            due("20 more", f.end(20), n + 20);
        }
        GateField f = new GateField(1, 1, 1, 1);
        f.feed(0x2e656e64, 0x20787878, 0, 0, 0);
        due("four of them", f.end(4), 4);
        due(".end alone", f.compile(), 0);
    }

    private static GateField blanks(int count) {
        GateField f = new GateField(1, 1, 1, 1);
        for (int k = 0; k < count; k += 20) {
            f.feed(BLANKS, BLANKS, BLANKS, BLANKS, BLANKS);
            f.end(Math.min(20, count - k));
        }
        f.feed(BLANKS, BLANKS, BLANKS, BLANKS, BLANKS);
        return f;
    }

    private static void refusedBytes() {
        GateField f = blanks(5);
        for (int n : new int[] {LEAST, -1, 21, MOST}) due("end(" + n + ")", f.end(n), NONE);
        due("nothing came", f.end(0), 5);
        f = blanks(3990);
        due("4010", f.end(20), NONE);
        due("4001", f.end(11), NONE);
        due("4000", f.end(10), 4000);
        f.feed(BLANKS, BLANKS, BLANKS, BLANKS, BLANKS);
        due("4001", f.end(1), NONE);
        due("4000 still", f.end(0), 4000);
        due("a TEXT of 4000", f.compile(), 0);
        f = blanks(5);
        f.feed(BLANKS, BLANKS, 0x20200020, BLANKS, BLANKS);
        due("one of eleven may not be", f.end(11), NONE);
        due("ten of them may", f.end(10), 15);
    }

    private static void emptyThen() {
        GateField f = and();
        due("the tape", f.end(0), 0);
        due("an empty TEXT", f.compile(), 0);
        due("inputs", f.look(1), 0);
        due("a FAULT", Texts.compile(f, ".inputs a .b"), 1);
        due("the tape", f.end(0), 0);
        due("the FAULT is gone", Texts.compile(f, AND), 0);
        f = blanks(4000);
        f.compile();
        f.feed(BLANKS, BLANKS, BLANKS, BLANKS, BLANKS);
        due("there is room", f.end(20), 20);
    }

    private static void asAtFirst() {
        GateField f = and();
        f.swap(false, 0, 1, MOST);
        f.swap(true, 0, 11, MOST);
        due("moved", f.tile(1), 0);
        due("once more", Texts.compile(f, AND), 0);
        due("tile 0", f.tile(0), 0);
        due("tile 1", f.tile(1), NONE);
        row("pads", padsOf(f), 0, 1, 200, 201, NONE, NONE, NONE, NONE, NONE, NONE, NONE, NONE);
        due("LENGTH", f.look(8), 6);
        due("a smaller one", Texts.compile(f, ".outputs a\n.inputs a"), 0);
        row("pads", padsOf(f), 0, 200, NONE, NONE, NONE, NONE, NONE, NONE, NONE, NONE, NONE, NONE);
        due("no CLUSTER", f.tile(0), NONE);
        f = with(".inputs a b\n.outputs a b", 1, 1, 1, 2);
        due("wires for two", f.route(20), 2);
        due("a smaller one", Texts.compile(f, ".inputs a\n.outputs a"), 0);
        due("wires for one", f.route(1), 1);
        due("wires for one", f.look(14), 1);
        f = with(".inputs a b\n.names a b x\n11 1", 2, 2, 2, 1);
        due("once more", Texts.compile(f, ".inputs a b\n.names a x\n1 1\n.names b u\n1 1\n.names a w\n1 1"), 0);
        row("packed as at first", elementOf(f, 2), 2, NONE, 0, 1);
    }

    private static void nothingCompiled() {
        GateField f = faulty();
        due("look(12)", f.look(12), 0);
        for (int k = 1; k <= 8; k++) due("look(" + k + ")", f.look(k), NONE);
        row("none", new int[] {f.lut(0, 4), f.element(0, 2), f.net(0, 0), f.tile(0), f.pad(0), f.owner(0), f.value(0),
            f.value(200), f.value(400), f.out(0), f.swap(false, 0, 1, 0), f.shake(0, 0), f.route(1)},
            NONE, NONE, NONE, NONE, NONE, NONE, NONE, NONE, NONE, NONE, NONE, NONE, NONE);
        due("drive", f.drive(0, true), false);
        due("clock", f.clock(0), false);
        due("burn", f.burn(), false);
        due("FAULT 6", Texts.compile(f, luts(5)), 6);
        due("look(12)", f.look(12), 0);
        row("none", new int[] {f.lut(0, 4), f.element(0, 2), f.value(400), f.look(3), f.look(5)},
            NONE, NONE, NONE, NONE, NONE);
        due("without a FAULT", Texts.compile(f, AND), 0);
    }

    private static void fresh() {
        GateField f = routed();
        f.clock(1);
        f.drive(0, true);
        f.drive(1, true);
        row("y and the latch", new int[] {f.value(400), f.value(200)}, 1, 0);
        due("once more", Texts.compile(f, AND), 0);
        due("nothing routed", f.look(12), 1);
        due("no wire", f.owner(0), NONE);
        due("no END", f.net(0, 3), NONE);
        row("inputs", new int[] {f.value(0), f.value(1)}, 0, 0);
        due("y", f.value(400), 0);
        due("INITIAL", f.value(200), 1);
        due("the output", f.out(1), 1);
        f.drive(0, true);
        due("y", f.value(400), 0);
    }

    private static void fieldStays() {
        GateField f = routed();
        f.burn();
        f.level(0, true);
        f.level(1, true);
        f.flip(67);
        f.tick(2);
        for (String text : new String[] {".what", ".inputs x", AND}) {
            Texts.compile(f, text);
            due("bits", f.bit(3), 1);
            due("the bit that was turned", f.bit(67), 0);
            due("TICKS", f.look(16), 2);
            due("a latch", f.probe(3, 1), 1);
            due("PADS", f.probe(1, 2), 1);
        }
    }

    private static void lookPlace() {
        GateField f = nothing();
        due("no compile()", f.look(0), NONE);
        Texts.compile(f, ".inputs a a");
        due("a FAULT", f.look(0), 10);
        Texts.compile(f, "x");
        due("the latest one", f.look(0), 0);
        Texts.compile(f, AND);
        due("without a FAULT", f.look(0), NONE);
        Texts.compile(f, ".outputs a");
        due("a FAULT", f.look(0), 9);
        Texts.compile(f, luts(5));
        due("FAULT 6", f.look(0), NONE);
    }

    private static void lookCompiled() {
        for (GateField f : new GateField[] {nothing(), faulty()})
            for (int k = 1; k <= 8; k++) due("nothing compiled: look(" + k + ")", f.look(k), NONE);
        GateField f = and();
        int[] want = {2, 1, 1, 2, 2, 1, 4, 6};
        for (int k = 1; k <= 8; k++) due("look(" + k + ")", f.look(k), want[k - 1]);
        f = with("", 1, 1, 1, 1);
        for (int k = 1; k <= 8; k++) due("an empty TEXT: look(" + k + ")", f.look(k), 0);
        f = with(".inputs" + many("i", 24) + "\n.outputs" + many("i", 24) + luts(126),
                6, 6, 4, 1);
        int[] full = {24, 0, 126, 24, 126, 32, 24};
        for (int k = 1; k <= 7; k++) due("150 NAMES, all PADS: look(" + k + ")", f.look(k), full[k - 1]);
    }

    private static void lookField() {
        int[][] want = {{8, 4, 126}, {12, 14, 368}, {48, 840, 15516}};
        GateField[] fields = {new GateField(1, 1, 1, 1), nothing(), new GateField(6, 6, 4, 10)};
        for (int k = 0; k < 3; k++)
            row("nothing compiled", new int[] {fields[k].look(9), fields[k].look(10), fields[k].look(11)}, want[k]);
        GateField f = routed();
        row("routed", new int[] {f.look(9), f.look(10), f.look(11)}, want[1]);
    }

    private static void lookState() {
        GateField f = nothing();
        due("new", f.look(12), 0);
        due("an empty TEXT", f.compile(), 0);
        due("compiled", f.look(12), 1);
        due("without NETS", f.route(1), 1);
        due("routed", f.look(12), 2);
        due("burn", f.burn(), true);
        due("routed still", f.look(12), 2);
        due("a FAULT", Texts.compile(f, "x"), 1);
        due("nothing compiled", f.look(12), 0);
        f = and();
        due("can't be", f.route(2), 0);
        due("not routed", f.look(12), 1);
    }

    private static void lookRounds() {
        due("nothing compiled", nothing().look(13), 0);
        GateField f = and();
        due("nothing routed", f.look(13), 0);
        f.route(20);
        due("three of twenty", f.look(13), 3);
        f.route(2);
        due("can't be", f.look(13), 0);
        f.route(3);
        f.swap(true, 0, 0, 0);
        due("no more", f.look(13), 0);
        f = with(AND, 2, 1, 2, 4);
        f.route(1);
        due("each NET has a track", f.look(13), 2);
        due("a FAULT", faulty().look(13), 0);
    }

    private static void lookWires() {
        due("nothing compiled", nothing().look(14), 0);
        GateField f = and();
        due("nothing routed", f.look(14), 0);
        f.route(20);
        int had = 0;
        for (int owner : ownersOf(f)) if (owner != NONE) had++;
        due("as many as are had", f.look(14), had);
        due("seven", f.look(14), 7);
        f.route(2);
        due("can't be", f.look(14), 0);
        f.route(3);
        f.shake(0, 1);
        due("no more", f.look(14), 0);
        due("a FAULT", faulty().look(14), 0);
    }

    private static void lookClocks() {
        GateField f = nothing();
        f.clock(3);
        due("nothing compiled", f.look(15), 0);
        f = and();
        due("none yet", f.look(15), 0);
        f.clock(0);
        due("none", f.look(15), 0);
        f.clock(1000);
        f.clock(1);
        due("1001", f.look(15), 1001);
        f.clock(1001);
        f.clock(-1);
        due("still", f.look(15), 1001);
        f.tick(5);
        f.route(20);
        due("still", f.look(15), 1001);
        Texts.compile(f, AND);
        due("since the latest", f.look(15), 0);
        f.clock(2);
        Texts.compile(f, "x");
        due("with a FAULT", f.look(15), 0);
    }

    private static void lookTicks() {
        GateField f = nothing();
        due("none yet", f.look(16), 0);
        f.tick(1000);
        f.tick(1);
        f.tick(0);
        due("1001", f.look(16), 1001);
        f.tick(1001);
        f.tick(-1);
        due("still", f.look(16), 1001);
        f.start();
        due("started", f.look(16), 0);
        f.tick(2);
        Texts.compile(f, AND);
        f.clock(7);
        due("compile() does not start it", f.look(16), 2);
        due("burn", f.burn(), false);
        due("nothing routed, not started", f.look(16), 2);
        f.route(20);
        due("burn", f.burn(), true);
        due("started", f.look(16), 0);
    }

    private static void lookOther() {
        for (GateField f : new GateField[] {nothing(), routed()})
            for (int k : new int[] {LEAST, -1, 17, 18, MOST}) due("look(" + k + ")", f.look(k), NONE);
    }

    private static void lut() {
        GateField f = with(".inputs a b c d\n.names a b c d x\n1111 1\n.names x y\n1 1", 1, 1, 2, 1);
        row("four pins", lutOf(f, 0), 0, 1, 2, 3, 32768);
        row("one pin, three without a SOURCE", lutOf(f, 1), 400, NONE, NONE, NONE, 43690);
        row("none such", lutOf(f, 2), NONE, NONE, NONE, NONE, NONE);
        for (int l : new int[] {LEAST, -1, 2, 400, MOST}) due("lut " + l, f.lut(l, 4), NONE);
        for (int k : new int[] {LEAST, -1, 5, MOST}) due("what " + k, f.lut(0, k), NONE);
        due("nothing compiled", nothing().lut(0, 0), NONE);
        f = with(luts(144), 6, 6, 4, 1);
        due("the last that there can be", f.lut(143, 4), 0);
        due("behind it", f.lut(144, 4), NONE);
        Texts.compile(f, ".latch q q");
        due("a latch's own LUT has no number", f.lut(0, 4), NONE);
    }

    private static void element() {
        GateField f = and();
        row("a LUT", elementOf(f, 0), 0, NONE, 0, 0);
        row("a latch", elementOf(f, 1), NONE, 0, 0, 1);
        row("none such", elementOf(f, 2), NONE, NONE, NONE, NONE);
        for (int e : new int[] {LEAST, -1, 2, MOST}) due("element " + e, f.element(e, 2), NONE);
        for (int k : new int[] {LEAST, -1, 4, MOST}) due("what " + k, f.element(0, k), NONE);
        due("nothing compiled", nothing().element(0, 2), NONE);
        f = with(luts(144), 6, 6, 4, 1);
        row("the last that there can be", elementOf(f, 143), 143, NONE, 35, 3);
        due("behind it", f.element(144, 2), NONE);
    }

    private static int[] netOf(GateField f, int n) {
        return new int[] {f.net(n, 0), f.net(n, 1), f.net(n, 2), f.net(n, 3), f.net(n, 4)};
    }

    private static void net() {
        GateField f = and();
        row("nothing routed", netOf(f, 3), 400, 2, 0, NONE, NONE);
        f.route(20);
        row("routed", netOf(f, 3), 400, 2, 3, 4, 2);
        f.swap(true, 0, 0, 0);
        row("no more", netOf(f, 3), 400, 2, 0, NONE, NONE);
        f = with(".inputs a\n.outputs" + " a".repeat(47), 6, 6, 1, 1);
        f.route(1);
        due("many SINKS", f.net(0, 1), 47);
        due("the last one's END", f.net(0, 3 + 46), 83);
        due("behind it", f.net(0, 3 + 47), NONE);
    }

    private static void noNet() {
        GateField f = routed();
        for (int n : new int[] {LEAST, -1, 4, MOST})
            for (int k = 0; k < 4; k++) due("net " + n, f.net(n, k), NONE);
        for (int k : new int[] {LEAST, -1, 4, MOST}) due("what " + k, f.net(0, k), NONE);
        due("y has two SINKS", f.net(3, 4), 2);
        due("not three", f.net(3, 5), NONE);
        due("nothing compiled", nothing().net(0, 1), NONE);
    }

    private static void tile() {
        GateField f = and();
        due("a CLUSTER", f.tile(0), 0);
        due("none on it", f.tile(1), NONE);
        for (int t : new int[] {LEAST, -1, 2, MOST}) due("tile " + t, f.tile(t), NONE);
        due("nothing compiled", nothing().tile(0), NONE);
        f = with(luts(36), 6, 6, 1, 1);
        due("the last", f.tile(35), 35);
        due("behind it", f.tile(36), NONE);
    }

    private static void pad() {
        GateField f = and();
        row("pads", padsOf(f), 0, 1, 200, 201, NONE, NONE, NONE, NONE, NONE, NONE, NONE, NONE);
        for (int p : new int[] {LEAST, -1, 12, MOST}) due("pad " + p, f.pad(p), NONE);
        due("nothing compiled", nothing().pad(0), NONE);
        f = with(".inputs a\n.outputs" + " a".repeat(47), 6, 6, 1, 1);
        due("the last", f.pad(47), 246);
        due("behind it", f.pad(48), NONE);
        due("inputs alone", with(".inputs" + many("i", 48), 6, 6, 1, 1).pad(47), 47);
    }

    private static void swap() {
        GateField f = and();
        due("PADS 0 and 11", f.swap(true, 0, 11, 1), 7);
        due("LENGTH", f.look(8), 7);
        due("what was at 0", f.pad(11), 0);
        due("TILES 0 and 1", f.swap(false, 0, 1, 9), 5);
        due("LENGTH", f.look(8), 5);
        due("what was on 0", f.tile(1), 0);
        due("undone", f.swap(false, 0, 1, 0), 5);
        due("still there", f.tile(1), 0);
        due("the same one twice", f.swap(true, 11, 11, 0), 5);
        due("still there", f.pad(11), 0);
    }

    private static void swapUnroutes() {
        int[][] swaps = {{0, 0, 1, 99}, {0, 0, 1, -99}, {0, 0, 0, 0}, {1, 0, 11, 99}, {1, 0, 11, -99}, {1, 10, 11, -1}};
        for (int[] k : swaps) {
            GateField f = routed();
            f.swap(k[0] == 1, k[1], k[2], k[3]);
            due("look(12) behind swap " + k[0] + " " + k[1] + " " + k[2] + " " + k[3], f.look(12), 1);
            due("burn", f.burn(), false);
        }
    }

    private static void swapRefused() {
        GateField f = routed();
        for (int wrong : new int[] {LEAST, -1, 2, MOST}) {
            due("first TILE " + wrong, f.swap(false, wrong, 0, MOST), NONE);
            due("second TILE " + wrong, f.swap(false, 0, wrong, MOST), NONE);
        }
        for (int wrong : new int[] {LEAST, -1, 12, MOST}) {
            due("first PAD " + wrong, f.swap(true, wrong, 0, MOST), NONE);
            due("second PAD " + wrong, f.swap(true, 0, wrong, MOST), NONE);
        }
        due("routed still", f.look(12), 2);
        due("tile", f.tile(0), 0);
        due("nothing compiled", nothing().swap(false, 0, 1, 0), NONE);
        due("nothing compiled", faulty().swap(true, 0, 1, 0), NONE);
    }

    private static void swapBelow() {
        GateField f = and();
        f.swap(true, 0, 11, 1);
        due("1 shorter, SLACK -2", f.swap(true, 0, 11, -2), 7);
        due("1 shorter, SLACK -1", f.swap(true, 0, 11, -1), 6);
        due("as long, SLACK -1", f.swap(false, 0, 1, -1), 6);
        due("undone", f.tile(0), 0);
        due("the least SLACK", f.swap(false, 0, 1, LEAST), 6);
        due("undone", f.tile(0), 0);
        due("SLACK 0", f.swap(false, 0, 1, 0), 6);
        due("changed", f.tile(1), 0);
        due("the greatest SLACK", f.swap(true, 0, 11, MOST), 5);
        due("changed", f.pad(11), 0);
    }

    /** COINS 0, 12345, -740551042, -1492899873: TILES 0, 0; PADS 28, 24; TILES 27, 11; PADS 239 and 19 of 48. */
    private static void coins() {
        String text = ".inputs" + many("i", 48) + luts(36);
        int[][] swapped = {{0, 0}, {28, 24}, {27, 11}, {47, 19}};
        for (int n = 0; n <= 4; n++) {
            GateField f = with(text, 6, 6, 1, 1);
            due("LENGTH without NETS", f.shake(0, n), 0);
            for (int k = 1; k < 4; k++) {
                int at = k == 2 ? f.tile(swapped[k][0]) : f.pad(swapped[k][0]);
                due(n + " COINS, what the COIN " + k + " changes", at, swapped[k][k < n ? 1 : 0]);
            }
        }
        GateField once = and();
        GateField singly = and();
        int c = MOST;
        int length = 0;
        for (int k = 0; k < 100; k++, c = (int) (c * 1103515245L + 12345L)) length = singly.shake(c, 1);
        due("LENGTH behind a hundred", once.shake(MOST, 100), length);
        row("pads", padsOf(once), padsOf(singly));
        due("LENGTH", once.look(8), length);
    }

    private static void shakeRefused() {
        GateField f = routed();
        for (int n : new int[] {LEAST, -1, 1001, MOST}) due("shake(1, " + n + ")", f.shake(1, n), NONE);
        due("routed still", f.look(12), 2);
        due("0", f.shake(-1, 0), 6);
        due("1000", f.shake(-1, 1000) >= 0, true);
        for (int n : new int[] {0, 1, 1000}) {
            due("nothing compiled", nothing().shake(0, n), NONE);
            due("nothing compiled", faulty().shake(0, n), NONE);
        }
    }

    private static void shakeUnroutes() {
        GateField f = routed();
        f.shake(12345, 0);
        due("n is 0", f.look(12), 2);
        f.shake(0, 1);
        due("n is 1, and TILE 0 with itself", f.look(12), 1);
        due("burn", f.burn(), false);
    }

    private static void rounds() {
        GateField f = and();
        due("in 2", f.route(2), 0);
        for (int most = 3; most <= 20; most++) due("in " + most, f.route(most), 3);
        due("1 is enough", with(".inputs a\n.outputs a", 1, 1, 1, 1).route(1), 1);
        due("1 is enough", with(".inputs a\n.outputs a", 1, 1, 1, 1).route(20), 1);
    }

    private static void oneMore() {
        GateField f = with(AND, 2, 1, 2, 4);
        due("four NETS, four tracks", f.route(1), 2);
        for (int n = 0; n < 4; n++) due("track of NET " + n, f.net(n, 3) % 4, n);
        due("look(13)", f.look(13), 2);
        due("four NETS, three tracks", with(AND, 2, 1, 2, 3).route(1), 0);
        due("no track is needed", with(AND, 2, 1, 2, 4).route(20) <= 20, true);
    }

    private static void cannotBe() {
        GateField f = routed();
        due("in 2", f.route(2), 0);
        due("nothing is routed", f.look(12), 1);
        due("no wire", f.owner(0), NONE);
        due("no END", f.net(0, 3), NONE);
        due("burn", f.burn(), false);
        f = with(".inputs a b\n.outputs a b", 1, 1, 1, 1);
        due("in 20", f.route(20), 0);
        due("nothing is routed", f.look(12), 1);
    }

    private static void routeRefused() {
        GateField f = routed();
        int[] owners = ownersOf(f);
        for (int most : new int[] {LEAST, -1, 0, 21, MOST}) due("route(" + most + ")", f.route(most), NONE);
        due("routed still", f.look(13), 3);
        row("owners", ownersOf(f), owners);
        for (int most : new int[] {0, 1, 20, 21}) {
            due("nothing compiled", nothing().route(most), NONE);
            due("nothing compiled", faulty().route(most), NONE);
        }
    }

    private static void owner() {
        GateField f = routed();
        row("owners", ownersOf(f), 0, 1, 3, 2, 3, NONE, NONE, NONE, NONE, NONE, 3, 2, NONE, NONE);
        for (int w : new int[] {LEAST, -1, 14, MOST}) due("owner(" + w + ")", f.owner(w), NONE);
        f.route(2);
        due("can't be routed", f.owner(0), NONE);
        due("nothing routed", and().owner(0), NONE);
        due("nothing compiled", nothing().owner(0), NONE);
        due("nothing compiled", faulty().owner(0), NONE);
    }

    private static void burn() {
        GateField f = and();
        f.flip(100);
        f.flip(17);
        f.start();
        f.tick(3);
        due("a latch of other bits", f.probe(3, 0), 1);
        f.level(0, true);
        f.level(1, true);
        due("no output of other bits", f.probe(1, 2), NONE);
        due("a wire of other bits", f.probe(0, 0), 0);
        f.route(20);
        due("burn", f.burn(), true);
        due("the output y", f.probe(1, 2), 1);
        due("the wire of a", f.probe(0, 0), 1);
        due("TABLE", f.bit(3), 1);
        due("a bit that was turned", f.bit(100), 0);
        due("started", f.look(16), 0);
        row("latches", new int[] {f.probe(3, 0), f.probe(3, 1), f.probe(3, 2), f.probe(3, 3)}, 0, 1, 0, 0);
        f.level(0, false);
        f.tick(1);
        due("its latch", f.probe(3, 1), 0);
        due("burn once more", f.burn(), true);
        due("INITIAL", f.probe(3, 1), 1);
        due("routed still", f.look(12), 2);
    }

    private static void burnRefused() {
        for (GateField f : new GateField[] {nothing(), and(), faulty()}) {
            f.flip(17);
            f.start();
            f.flip(17);
            f.flip(100);
            f.tick(3);
            due("burn", f.burn(), false);
            due("a bit that was turned", f.bit(100), 1);
            due("TICKS", f.look(16), 3);
            due("a latch", f.probe(3, 0), 1);
        }
    }
}
