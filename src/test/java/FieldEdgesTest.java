/** Boundary cases of THE FIELD and of THE MEANING. */
public final class FieldEdgesTest extends Edges {
    private static final int SAME = 43690;
    private static final int NOT = 21845;
    private static final int OR = 61166;
    private static final int ALWAYS = 65535;

    public static void main(String[] args) {
        of("WIRES that are JOINED (by any ways) have one LEVEL: 1 if an OUT that drives one of them is 1, or the "
                + "LEVEL of an input PAD that does; else 0.", FieldEdgesTest::levels);
        of("An OUT is its latch, if that is used, else its LUT.", FieldEdgesTest::outs);
        of("A pin has the LEVEL of its wire (0 for 0, and for numbers that no wire has).", FieldEdgesTest::pins);
        of("An output PAD has that of its wire (0 likewise); another one none.", FieldEdgesTest::outputPads);
        of("TO SETTLE: all LUTs are 0 first", FieldEdgesTest::zeroFirst);
        of("in a SWEEP all become at once what their pins say; when a SWEEP changes none, it is SETTLED",
                FieldEdgesTest::sweeps);
        of("it is RESTLESS if as many SWEEPS as the field has ELEMENTS, and one more, all change something.",
                FieldEdgesTest::restless);
        of("A TICK: it SETTLES (RESTLESS: there is none), all latches that are used take their LUTs' values.",
                FieldEdgesTest::ticks);
        of("Inputs have levels; a function has its value; a latch INITIAL first, at a CLOCK all take their Ds at "
                + "once.", FieldEdgesTest::meaning);
        of("The constants: `NONE = -1`: None.", () -> due("NONE", GateField.NONE, -1));
        close("THE FIELD and THE MEANING");
    }

    private static void levels() {
        Board b = new Board(1, 1, 1, 1);
        due("nothing drives it", b.f.probe(0, 0), 0);
        b.setInput(0, 0, false);
        b.setInput(1, 0, false);
        due("two inputs, 0 and 0", b.f.probe(0, 0), 0);
        b.f.level(0, true);
        due("1 and 0", b.f.probe(0, 0), 1);
        b.f.level(1, true);
        due("1 and 1", b.f.probe(0, 0), 1);
        b.f.level(0, false);
        due("0 and 1", b.f.probe(0, 0), 1);
        b.f.level(1, false);
        b.setSource(0, Board.BELOW, 0);
        due("0, 0 and an OUT", b.f.probe(0, 0), 1);
        due("a wire that is not joined", b.f.probe(0, 2), 0);
        chain();
        ring();
        allOnes();
    }

    /** All BITS are 1: no PAD is an input, all OUTS are latches and drive all wires. */
    private static void allOnes() {
        Board b = new Board(2, 1, 2, 2);
        for (int i = 0; i < b.bits(); i++) b.f.flip(i);
        for (int p = 0; p < b.pads(); p++) b.f.level(p, true);
        for (int w = 0; w < b.wires(); w++) due("latches 0, wire " + w, b.f.probe(0, w), 0);
        due("a TICK", b.f.tick(1), 1);
        for (int w = 0; w < b.wires(); w++) due("latches 1, wire " + w, b.f.probe(0, w), 1);
    }

    /** All flat wires below the lowest row, joined one to the next. */
    private static void chain() {
        Board b = new Board(6, 1, 1, 2);
        b.setInput(0, 1, true);
        for (int x = 1; x <= 5; x++) b.f.flip(b.joint(x, 0, 1, Board.LEFT_RIGHT));
        for (int x = 0; x < 6; x++) {
            due("joined by " + x, b.f.probe(0, b.h(x, 0, 1)), 1);
            due("another track", b.f.probe(0, b.h(x, 0, 0)), 0);
        }
        b.f.flip(b.joint(3, 0, 1, Board.LEFT_RIGHT));
        due("left of the gap", b.f.probe(0, b.h(2, 0, 1)), 1);
        due("right of the gap", b.f.probe(0, b.h(3, 0, 1)), 0);
        b.setInput(10, 1, true);
        due("driven from the other end", b.f.probe(0, b.h(3, 0, 1)), 1);
    }

    private static void ring() {
        Board b = new Board(1, 1, 1, 1);
        int[] joints = {b.joint(0, 0, 0, Board.RIGHT_UPPER), b.joint(1, 0, 0, Board.LEFT_UPPER),
            b.joint(0, 1, 0, Board.RIGHT_LOWER), b.joint(1, 1, 0, Board.LEFT_LOWER)};
        for (int i : joints) b.f.flip(i);
        b.setInput(6, 0, true);
        for (int w = 0; w < 4; w++) due("wire " + w, b.f.probe(0, w), 1);
        for (int i : joints) {
            b.f.flip(i);
            for (int w = 0; w < 4; w++) due("by the other way, wire " + w, b.f.probe(0, w), 1);
            b.f.flip(i);
        }
    }

    private static void outs() {
        Board b = new Board(1, 1, 1, 1);
        b.setSource(0, Board.BELOW, 0);
        due("its LUT", b.f.probe(2, 0), 1);
        due("the wire", b.f.probe(0, 0), 1);
        b.f.flip(b.used(0));
        due("its latch", b.f.probe(2, 0), 0);
        due("the wire", b.f.probe(0, 0), 0);
        b.f.tick(1);
        due("its latch", b.f.probe(2, 0), 1);
        due("the wire", b.f.probe(0, 0), 1);
        b.setTable(0, 0);
        due("its latch still", b.f.probe(2, 0), 1);
        b.f.flip(b.used(0));
        due("its LUT", b.f.probe(2, 0), 0);
        due("its latch stays what it is", b.f.probe(3, 0), 1);
    }

    /** All wires round the only tile are high; LUT 0 is 1 if pin p alone is. */
    private static void pins(int tracks, int p, int number) {
        Board b = new Board(1, 1, 1, tracks);
        for (int pad = 0; pad < 8; pad += 2) {
            b.set(b.pad(pad), 2, 1);
            b.set(b.padDrives(pad, 0), tracks, (1 << tracks) - 1);
            b.f.level(pad, true);
        }
        b.setTable(0, 1 << (1 << p));
        b.set(b.pin(0, p), 6, number);
        boolean there = number >= 1 && number <= 4 * tracks;
        due(tracks + " tracks, pin " + p + " at " + number, b.f.probe(2, 0), there ? 1 : 0);
    }

    private static void pins() {
        for (int tracks : new int[] {1, 3, 10})
            for (int p = 0; p < 4; p++)
                for (int number = 0; number < 64; number++) pins(tracks, p, number);
        for (int n = 0; n < 16; n++) {
            Board b = new Board(1, 1, 1, 1);
            for (int side = 0; side < 4; side++) {
                b.setPin(0, side, side, 0);
                b.setInput(2 * side, 0, false);
            }
            b.setTable(0, 1 << n);
            for (int high = 0; high < 16; high++) {
                for (int side = 0; side < 4; side++) b.f.level(2 * side, (high >> side & 1) == 1);
                due("bit " + n + " of the TABLE, pins " + high, b.f.probe(2, 0), high == n ? 1 : 0);
            }
        }
        for (int number = 1; number <= 8; number++) {
            for (int at = 0; at < 8; at++) {
                Board b = new Board(1, 1, 1, 2);
                b.setInput(at / 2 * 2, at % 2, true);
                b.setTable(0, SAME);
                b.set(b.pin(0, 0), 6, number);
                due("pin at " + number + ", high " + at, b.f.probe(2, 0), number == 1 + at ? 1 : 0);
            }
        }
    }

    private static void outputPads() {
        for (int tracks : new int[] {1, 3, 10}) {
            for (int number = 0; number < 16; number++) {
                Board b = new Board(1, 1, 1, tracks);
                b.set(b.pad(6), 2, 1);
                b.set(b.padDrives(6, 0), tracks, (1 << tracks) - 1);
                b.f.level(6, true);
                b.set(b.pad(7), 2, 2);
                b.set(b.padEnd(7), 4, number);
                due(tracks + " tracks, at " + number, b.f.probe(1, 7), number >= 1 && number <= tracks ? 1 : 0);
            }
        }
        Board b = new Board(1, 1, 1, 3);
        b.setInput(6, 1, true);
        for (int t = 0; t < 3; t++) {
            b.setOutput(7, t);
            due("at track " + t, b.f.probe(1, 7), t == 1 ? 1 : 0);
        }
        b.setOutput(7, 1);
        b.set(b.padDrives(7, 0), 3, 7);
        due("what an input would drive does not count", b.f.probe(1, 7), 1);
        for (int kind : new int[] {0, 1, 3}) {
            b.set(b.pad(7), 2, kind);
            due("kind " + kind, b.f.probe(1, 7), NONE);
        }
        due("an input", b.f.probe(1, 6), NONE);
    }

    /** A LUT that is what it drives, or what an input drives there. */
    private static void zeroFirst() {
        Board b = new Board(1, 1, 1, 1);
        b.setTable(0, SAME);
        b.setPin(0, 0, Board.BELOW, 0);
        b.f.flip(b.drives(0, Board.BELOW, 0));
        due("0", b.f.probe(2, 0), 0);
        b.setInput(0, 0, true);
        due("by the input", b.f.probe(2, 0), 1);
        b.f.level(0, false);
        due("it holds nothing", b.f.probe(2, 0), 0);
        b.f.tick(3);
        due("nor behind TICKS", b.f.probe(2, 0), 0);
    }

    /** Element e drives track e below; the first two pins are those tracks. */
    private static Board two(int elements, int first, int second) {
        Board b = new Board(1, 1, elements, 2);
        b.setTable(0, first);
        b.setTable(1, second);
        for (int e = 0; e < 2; e++) {
            b.f.flip(b.drives(e, Board.BELOW, e));
            for (int p = 0; p < 2; p++) b.setPin(e, p, Board.BELOW, p);
        }
        return b;
    }

    private static void sweeps() {
        int notSecond = 0x3333;
        Board b = two(2, notSecond, NOT);
        due("each is what the other is not: both change at once, for ever", b.f.probe(2, 0), -2);
        b = two(2, ALWAYS, SAME);
        due("the first", b.f.probe(2, 0), 1);
        due("the second, a SWEEP later", b.f.probe(2, 1), 1);
        b = two(2, 0xcccc, ALWAYS);
        due("the first, a SWEEP later", b.f.probe(2, 0), 1);
        b = new Board(1, 1, 1, 1);
        due("nothing to change", b.f.probe(2, 0), 0);
    }

    /** NOT the first, and OR of both: 00, 01, 11, 10 and no other then: three SWEEPS that change something. */
    private static void restless() {
        due("two ELEMENTS: three SWEEPS are too many", two(2, OR, NOT).f.probe(2, 0), -2);
        Board b = two(3, OR, NOT);
        due("three ELEMENTS: the fourth SWEEP changes none", b.f.probe(2, 0), 1);
        due("the second one", b.f.probe(2, 1), 0);
        due("no TICK", two(2, OR, NOT).f.tick(1), 0);
        due("a TICK", b.f.tick(1), 1);
        b = new Board(1, 1, 1, 1);
        b.setTable(0, ALWAYS);
        due("one ELEMENT, one SWEEP, and one that changes none", b.f.probe(2, 0), 1);
        b.setTable(0, NOT);
        b.setPin(0, 0, Board.BELOW, 0);
        b.f.flip(b.drives(0, Board.BELOW, 0));
        due("one ELEMENT, two SWEEPS", b.f.probe(2, 0), -2);
        chainOfLuts();
    }

    /** Each LUT is the one ahead: as many SWEEPS as there are ELEMENTS change something, one more none. */
    private static void chainOfLuts() {
        Board b = new Board(2, 1, 4, 8);
        b.setTable(0, ALWAYS);
        for (int x = 0; x < 8; x++) b.f.flip(b.joint(1, 0, x, Board.LEFT_RIGHT));
        for (int e = 0; e < 8; e++) {
            b.f.flip(b.drives(e, Board.BELOW, e));
            if (e == 0) continue;
            b.setTable(e, SAME);
            b.setPin(e, 0, Board.BELOW, e - 1);
        }
        for (int e = 0; e < 8; e++) due("ELEMENT " + e, b.f.probe(2, e), 1);
    }

    private static void ticks() {
        Board b = two(2, 0xcccc, SAME);
        for (int e = 0; e < 2; e++) b.f.flip(b.used(e));
        b.f.flip(b.initial(0));
        b.f.start();
        due("one TICK", b.f.tick(1), 1);
        row("each has the other's, at once", new int[] {b.f.probe(3, 0), b.f.probe(3, 1)}, 0, 1);
        b.f.tick(3);
        row("four TICKS", new int[] {b.f.probe(3, 0), b.f.probe(3, 1)}, 1, 0);
        b = two(2, ALWAYS, ALWAYS);
        b.f.flip(b.used(1));
        b.f.tick(2);
        row("one that is not used takes nothing", new int[] {b.f.probe(3, 0), b.f.probe(3, 1)}, 0, 1);
        b = two(3, OR, NOT);
        b.set(b.element(2), 17, 65535 | 1 << 16);
        b.f.tick(1);
        due("a latch beside them", b.f.probe(3, 2), 1);
        b = two(2, 0x3333, NOT);
        b.f.flip(b.used(0));
        b.f.flip(b.used(1));
        due("the latches break the ring", b.f.tick(1), 1);
        b.f.flip(b.used(1));
        b.f.flip(b.used(0));
        due("RESTLESS: there is none", b.f.tick(1), 0);
        row("the latches stay", new int[] {b.f.probe(3, 0), b.f.probe(3, 1)}, 1, 1);
    }

    private static void meaning() {
        GateField f = with(".inputs a\n.latch a q 1\n.latch q r\n.latch s r2\n.latch r2 s 1\n.names a q y\n11 1\n"
                + ".outputs y", 2, 2, 2, 1);
        row("at first", latchesOf(f), 1, 0, 0, 1);
        due("y", f.out(0), 0);
        f.drive(0, true);
        due("y", f.out(0), 1);
        f.drive(0, false);
        f.clock(1);
        row("a CLOCK", latchesOf(f), 0, 1, 1, 0);
        f.clock(1);
        row("two", latchesOf(f), 0, 0, 0, 1);
        f.drive(0, true);
        due("a latch waits for its CLOCK", f.value(200), 0);
        f.clock(1);
        row("three", latchesOf(f), 1, 0, 1, 0);
        due("y", f.out(0), 1);
    }

    private static int[] latchesOf(GateField f) {
        return new int[] {f.value(200), f.value(201), f.value(202), f.value(203)};
    }
}
