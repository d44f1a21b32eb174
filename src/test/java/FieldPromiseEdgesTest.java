/** Boundary cases of the promises 16 to 25, that are of the field's bits, of its run and of the meaning. */
public final class FieldPromiseEdgesTest extends Edges {
    private static final int NOT = 21845;
    private static final int ALWAYS = 65535;

    public static void main(String[] args) {
        bits();
        running();
        meaning();
        close("the promises 16 to 25");
    }

    private static void bits() {
        of(16, "Bit i of the field; NONE if there is none such.", FieldPromiseEdgesTest::bit);
        of(17, "Bit i of the field is turned: what it is then.", FieldPromiseEdgesTest::flip);
        of(17, "NONE if there is none such.", FieldPromiseEdgesTest::flipRefused);
        of(18, "All latches become INITIAL as the BITS say (those that are not used, too); no TICKS yet.",
                FieldPromiseEdgesTest::start);
    }

    private static void running() {
        of(19, "The LEVEL at a PAD, from outside (it counts where the PAD is an input): true",
                FieldPromiseEdgesTest::level);
        of(19, "false if there is none such.", FieldPromiseEdgesTest::levelRefused);
        of(20, "At most n TICKS: how many there were (fewer, if it is RESTLESS).", FieldPromiseEdgesTest::tick);
        of(20, "NONE if n is not 0 .. 1000.", FieldPromiseEdgesTest::tickRefused);
        of(21, "SETTLED, of what 0: the LEVEL of WIRE i, 1: that of PAD i, if it is an output, 2: OUT of the i-th "
                + "ELEMENT of the field (by TILES), 3: its latch.", FieldPromiseEdgesTest::probe);
        of(21, "NONE if there is none such (asked first)", FieldPromiseEdgesTest::probeRefused);
        of(21, "-2 if it is RESTLESS (but for what 3).", FieldPromiseEdgesTest::probeRestless);
    }

    private static void meaning() {
        of(22, "Input i has a level in the MEANING: true; false if there is none such (or nothing is compiled).",
                FieldPromiseEdgesTest::drive);
        of(23, "n CLOCKS: true", FieldPromiseEdgesTest::clock);
        of(23, "false if n is not 0 .. 1000, or nothing is compiled.", FieldPromiseEdgesTest::clockRefused);
        of(24, "The value of a SOURCE in the MEANING (that of a LUT as its TABLE says)",
                FieldPromiseEdgesTest::value);
        of(24, "NONE if there is none such.", FieldPromiseEdgesTest::noValue);
        of(25, "Output o in the MEANING; NONE if there is none such.", FieldPromiseEdgesTest::out);
    }

    private static GateField burnt() {
        GateField f = routed();
        due("burn", f.burn(), true);
        return f;
    }

    /** One element that is what it drives, turned: RESTLESS. */
    private static Board ring() {
        Board b = new Board(1, 1, 1, 1);
        b.setTable(0, NOT);
        b.setPin(0, 0, Board.BELOW, 0);
        b.f.flip(b.drives(0, Board.BELOW, 0));
        return b;
    }

    private static void bit() {
        for (int[] k : new int[][] {{1, 1, 1, 1, 126}, {2, 1, 2, 2, 368}, {6, 6, 4, 10, 15516}}) {
            GateField f = new GateField(k[0], k[1], k[2], k[3]);
            due("the first", f.bit(0), 0);
            due("the last", f.bit(k[4] - 1), 0);
            for (int i : new int[] {LEAST, -1, k[4], MOST}) due("bit(" + i + ")", f.bit(i), NONE);
            f.flip(0);
            f.flip(k[4] - 1);
            due("the first", f.bit(0), 1);
            due("the second", f.bit(1), 0);
            due("the last but one", f.bit(k[4] - 2), 0);
            due("the last", f.bit(k[4] - 1), 1);
        }
    }

    private static void flip() {
        Board b = new Board(1, 1, 1, 1);
        for (int i = 0; i < b.bits(); i++) due("bit " + i, b.f.flip(i), 1);
        for (int i = 0; i < b.bits(); i++) due("is so, " + i, b.f.bit(i), 1);
        for (int i = 0; i < b.bits(); i++) due("and back, " + i, b.f.flip(i), 0);
        GateField f = burnt();
        f.level(0, true);
        f.level(1, true);
        due("y", f.probe(1, 2), 1);
        due("its TABLE", f.flip(3), 0);
        due("y", f.probe(1, 2), 0);
        due("INITIAL", f.flip(67), 0);
        due("the latch stays", f.probe(3, 1), 1);
        due("routed still", f.look(12), 2);
        due("burn", f.burn(), true);
        due("as it was", f.bit(3), 1);
    }

    private static void flipRefused() {
        for (int[] k : new int[][] {{1, 1, 1, 1, 126}, {6, 6, 4, 10, 15516}}) {
            GateField f = new GateField(k[0], k[1], k[2], k[3]);
            for (int i : new int[] {LEAST, -1, k[4], MOST}) due("flip(" + i + ")", f.flip(i), NONE);
            due("the first", f.bit(0), 0);
            due("the last", f.flip(k[4] - 1), 1);
        }
    }

    private static void start() {
        Board b = new Board(1, 1, 2, 1);
        b.f.flip(b.initial(0));
        b.f.flip(b.initial(1));
        b.f.flip(b.used(1));
        due("not yet", b.f.probe(3, 0), 0);
        b.f.tick(1);
        b.f.start();
        due("one that is not used", b.f.probe(3, 0), 1);
        due("one that is used", b.f.probe(3, 1), 1);
        due("OUT is the LUT", b.f.probe(2, 0), 0);
        due("OUT is the latch", b.f.probe(2, 1), 1);
        due("no TICKS yet", b.f.look(16), 0);
        b.f.tick(2);
        row("two TICKS", new int[] {b.f.probe(3, 0), b.f.probe(3, 1), b.f.look(16)}, 1, 0, 2);
        b.f.flip(b.initial(0));
        b.f.start();
        row("started once more", new int[] {b.f.probe(3, 0), b.f.probe(3, 1), b.f.look(16)}, 0, 1, 0);
        b.setInput(0, 0, true);
        b.f.start();
        due("LEVELS of PADS stay", b.f.probe(0, 0), 1);
    }

    private static void level() {
        Board b = new Board(1, 1, 1, 1);
        for (int p = 0; p < 8; p++) due("pad " + p, b.f.level(p, true), true);
        due("no input yet", b.f.probe(0, 0), 0);
        b.f.flip(b.padDrives(1, 0));
        for (int kind = 0; kind < 4; kind++) {
            b.set(b.pad(1), 2, kind);
            due("kind " + kind, b.f.probe(0, 0), kind == 1 ? 1 : 0);
        }
        b.set(b.pad(1), 2, 1);
        due("0", b.f.level(1, false), true);
        due("wire", b.f.probe(0, 0), 0);
        due("1", b.f.level(1, true), true);
        due("wire", b.f.probe(0, 0), 1);
        b.f.start();
        b.f.compile();
        b.f.tick(3);
        due("it stays", b.f.probe(0, 0), 1);
        due("a latch of the MEANING is another thing", burnt().level(11, true), true);
    }

    private static void levelRefused() {
        GateField f = new GateField(1, 1, 1, 1);
        for (int p : new int[] {LEAST, -1, 8, MOST}) due("level(" + p + ")", f.level(p, true), false);
        due("the last", f.level(7, true), true);
        f = new GateField(6, 6, 1, 1);
        due("the last of the largest", f.level(47, true), true);
        due("behind it", f.level(48, true), false);
    }

    /** A latch that turns at each TICK; 1000 of them and 999 leave it at different sides. */
    private static void tick() {
        Board b = ring();
        due("RESTLESS", b.f.tick(5), 0);
        due("TICKS", b.f.look(16), 0);
        due("none of none", b.f.tick(0), 0);
        b.f.flip(b.used(0));
        due("0", b.f.tick(0), 0);
        due("the latch", b.f.probe(3, 0), 0);
        due("1", b.f.tick(1), 1);
        due("the latch", b.f.probe(3, 0), 1);
        due("1000", b.f.tick(1000), 1000);
        due("the latch", b.f.probe(3, 0), 1);
        due("999", b.f.tick(999), 999);
        due("the latch", b.f.probe(3, 0), 0);
        due("TICKS", b.f.look(16), 2000);
        due("nothing changes", new GateField(6, 6, 4, 10).tick(1000), 1000);
        restlessLater();
    }

    /** A row of three latches takes a 1 along; as soon as the third has it, ELEMENT 3 is RESTLESS. */
    private static void restlessLater() {
        Board b = new Board(1, 1, 4, 4);
        b.setTable(0, ALWAYS);
        for (int e = 0; e < 3; e++) {
            b.f.flip(b.used(e));
            b.f.flip(b.drives(e, Board.BELOW, e));
            if (e == 0) continue;
            b.setTable(e, 43690);
            b.setPin(e, 0, Board.BELOW, e - 1);
        }
        b.setTable(3, 0x4444);
        b.setPin(3, 0, Board.BELOW, 3);
        b.setPin(3, 1, Board.BELOW, 2);
        b.f.flip(b.drives(3, Board.BELOW, 3));
        due("two", b.f.tick(2), 2);
        due("one of seven", b.f.tick(7), 1);
        due("none of seven", b.f.tick(7), 0);
        due("TICKS", b.f.look(16), 3);
        b.f.start();
        due("three of 1000", b.f.tick(1000), 3);
        due("its latch", b.f.probe(3, 2), 1);
        b.f.start();
        due("as many as it may", b.f.tick(3), 3);
    }

    private static void tickRefused() {
        for (Board b : new Board[] {new Board(1, 1, 1, 1), ring()}) {
            for (int n : new int[] {LEAST, -1, 1001, MOST}) due("tick(" + n + ")", b.f.tick(n), NONE);
            due("TICKS", b.f.look(16), 0);
        }
    }

    private static void probe() {
        Board b = new Board(2, 2, 2, 1);
        int e = 3 * 2 + 1;
        b.setSource(e, Board.RIGHT, 0);
        b.setOutput(15, 0);
        b.f.flip(b.initial(e));
        for (int k = 0; k < 8; k++) due("OUT " + k, b.f.probe(2, k), k == e ? 1 : 0);
        for (int w = 0; w < 12; w++) due("WIRE " + w, b.f.probe(0, w), w == 11 ? 1 : 0);
        for (int p = 0; p < 16; p++) due("PAD " + p, b.f.probe(1, p), p == 15 ? 1 : NONE);
        b.f.start();
        for (int k = 0; k < 8; k++) due("latch " + k, b.f.probe(3, k), k == e ? 1 : 0);
        b.setTable(e, 0);
        row("0", new int[] {b.f.probe(0, 11), b.f.probe(1, 15), b.f.probe(2, e), b.f.probe(3, e)}, 0, 0, 0, 1);
        Board large = new Board(6, 6, 4, 10);
        row("the last ones", new int[] {large.f.probe(0, 839), large.f.probe(1, 47), large.f.probe(2, 143),
            large.f.probe(3, 143)}, 0, NONE, 0, 0);
        row("behind them", new int[] {large.f.probe(0, 840), large.f.probe(1, 48), large.f.probe(2, 144),
            large.f.probe(3, 144)}, NONE, NONE, NONE, NONE);
    }

    private static void probeRefused() {
        for (Board b : new Board[] {new Board(1, 1, 1, 1), ring()}) {
            for (int what : new int[] {LEAST, -1, 4, MOST}) due("what " + what, b.f.probe(what, 0), NONE);
            int[] count = {4, 8, 1, 1};
            for (int what = 0; what < 4; what++)
                for (int i : new int[] {LEAST, -1, count[what], MOST})
                    due("probe(" + what + ", " + i + ")", b.f.probe(what, i), NONE);
            for (int p = 0; p < 8; p++) due("no output " + p, b.f.probe(1, p), NONE);
            b.f.flip(b.pad(8) + 1);
            due("no PAD, whatever bits stand behind the last one", b.f.probe(1, 8), NONE);
            for (int kind : new int[] {1, 3}) {
                b.set(b.pad(7), 2, kind);
                due("kind " + kind, b.f.probe(1, 7), NONE);
            }
        }
    }

    private static void probeRestless() {
        Board b = ring();
        for (int w = 0; w < 4; w++) due("WIRE " + w, b.f.probe(0, w), -2);
        b.set(b.pad(7), 2, 2);
        due("an output", b.f.probe(1, 7), -2);
        due("OUT", b.f.probe(2, 0), -2);
        due("a latch", b.f.probe(3, 0), 0);
        b.f.flip(b.initial(0));
        b.f.start();
        due("a latch", b.f.probe(3, 0), 1);
        b.f.flip(b.used(0));
        row("not RESTLESS with its latch", new int[] {b.f.probe(0, 0), b.f.probe(1, 7), b.f.probe(2, 0)}, 1, 0, 1);
        b.f.flip(b.used(0));
        b.f.flip(b.drives(0, Board.BELOW, 0));
        due("not RESTLESS when it drives nothing", b.f.probe(2, 0), 1);
    }

    private static void drive() {
        GateField f = and();
        row("at first", new int[] {f.value(0), f.value(1), f.out(0)}, 0, 0, 0);
        due("a", f.drive(0, true), true);
        due("b", f.drive(1, true), true);
        row("both", new int[] {f.value(0), f.value(1), f.out(0)}, 1, 1, 1);
        for (int i : new int[] {LEAST, -1, 2, 200, 400, MOST}) due("drive(" + i + ")", f.drive(i, false), false);
        row("still", new int[] {f.value(0), f.value(1), f.out(0)}, 1, 1, 1);
        due("a", f.drive(0, false), true);
        row("one", new int[] {f.value(0), f.value(1), f.out(0)}, 0, 1, 0);
        due("nothing compiled", new GateField(1, 1, 1, 1).drive(0, true), false);
        due("nothing compiled", faulty().drive(0, true), false);
        f = with(".inputs" + many("i", 48), 6, 6, 1, 1);
        due("the last", f.drive(47, true), true);
        due("it alone", f.value(47) - f.value(46), 1);
        due("behind it", f.drive(48, true), false);
        due("without inputs", with(".names y", 1, 1, 1, 1).drive(0, true), false);
    }

    private static void clock() {
        GateField f = with(".names q d\n0 1\n.latch d q", 1, 1, 1, 1);
        due("0", f.clock(0), true);
        due("the latch", f.value(200), 0);
        due("1", f.clock(1), true);
        due("the latch", f.value(200), 1);
        due("999", f.clock(999), true);
        due("the latch", f.value(200), 0);
        due("1000", f.clock(1000), true);
        due("the latch", f.value(200), 0);
        due("CLOCKS", f.look(15), 2000);
        f = with(".inputs a", 1, 1, 1, 1);
        due("without latches", f.clock(1000), true);
        due("CLOCKS", f.look(15), 1000);
        f = burnt();
        f.clock(3);
        due("no TICKS of the field", f.look(16), 0);
        due("its latch", f.probe(3, 1), 1);
    }

    private static void clockRefused() {
        GateField f = and();
        for (int n : new int[] {LEAST, -1, 1001, MOST}) due("clock(" + n + ")", f.clock(n), false);
        due("CLOCKS", f.look(15), 0);
        due("the latch", f.value(200), 1);
        for (int n : new int[] {0, 1, 1000}) {
            due("nothing compiled", new GateField(1, 1, 1, 1).clock(n), false);
            due("nothing compiled", faulty().clock(n), false);
        }
    }

    private static void value() {
        String text = ".inputs a b c d e\n.names a b c d e y\n1-1-1 1\n-0-0- 1\n00--- 1\n.latch y q 1";
        GateField f = with(text, 2, 2, 2, 1);
        due("the latch", f.value(200), 1);
        for (int n = 0; n < 32; n++) {
            for (int i = 0; i < 5; i++) f.drive(i, (n >> i & 1) == 1);
            boolean y = (n & 21) == 21 || (n & 10) == 0 || (n & 3) == 0;
            due("y at " + n, f.value(402), y ? 1 : 0);
            int inner = 400 + (n >> 4 & 1);
            due("the LUT that is chosen", f.value(inner), y ? 1 : 0);
            due("e", f.value(4), n >> 4);
        }
        f.clock(1);
        due("the latch has y of 31", f.value(200), 1);
        f.drive(0, false);
        due("y of 30", f.value(402), 0);
        due("the latch", f.value(200), 1);
    }

    private static void noValue() {
        GateField f = and();
        for (int s : new int[] {LEAST, -1, 2, 199, 201, 399, 401, 600, MOST}) due("value(" + s + ")", f.value(s), NONE);
        row("those that are", new int[] {f.value(0), f.value(1), f.value(200), f.value(400)}, 0, 0, 1, 0);
        for (int s : new int[] {0, 200, 400}) {
            due("nothing compiled", new GateField(1, 1, 1, 1).value(s), NONE);
            due("nothing compiled", faulty().value(s), NONE);
            due("nothing in it", with("", 1, 1, 1, 1).value(s), NONE);
        }
        f = with(".inputs" + many("i", 48), 6, 6, 4, 1);
        row("48 inputs", new int[] {f.value(47), f.value(48)}, 0, NONE);
        f = with(latches(144), 6, 6, 4, 1);
        row("144 latches", new int[] {f.value(343), f.value(344)}, 0, NONE);
        f = with(luts(144), 6, 6, 4, 1);
        row("144 LUTs", new int[] {f.value(543), f.value(544)}, 0, NONE);
    }

    private static void out() {
        GateField f = with(".inputs a\n.outputs q a y y\n.latch a q 1\n.names a y\n0 1", 2, 2, 2, 1);
        row("at first", new int[] {f.out(0), f.out(1), f.out(2), f.out(3)}, 1, 0, 1, 1);
        f.drive(0, true);
        row("a is 1", new int[] {f.out(0), f.out(1), f.out(2), f.out(3)}, 1, 1, 0, 0);
        f.drive(0, false);
        f.clock(1);
        row("a CLOCK", new int[] {f.out(0), f.out(1), f.out(2), f.out(3)}, 0, 0, 1, 1);
        for (int o : new int[] {LEAST, -1, 4, 200, MOST}) due("out(" + o + ")", f.out(o), NONE);
        due("nothing compiled", new GateField(1, 1, 1, 1).out(0), NONE);
        due("nothing compiled", faulty().out(0), NONE);
        due("without outputs", with(".inputs a", 1, 1, 1, 1).out(0), NONE);
        f = with(".latch q q 1\n.outputs" + " q".repeat(48), 6, 6, 1, 1);
        due("the last", f.out(47), 1);
        due("behind it", f.out(48), NONE);
    }
}
