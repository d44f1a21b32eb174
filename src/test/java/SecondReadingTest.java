import java.util.Random;

/** Long runs of calls by chance (always the same): GateField beside SecondReading. */
public final class SecondReadingTest {
    private static int wrong;
    private static long calls;
    private static final int[] FAULTS = new int[7];
    private static final int[] ROUNDS = new int[23];
    private static int restless;

    private final Random r;
    private final long seed;
    private final GateField x;
    private final SecondReading y;
    private String latest = "";

    private SecondReadingTest(long seed, int c, int rows, int e, int t) {
        r = new Random(seed);
        this.seed = seed;
        x = new GateField(c, rows, e, t);
        y = new SecondReading(c, rows, e, t);
    }

    private void same(String call, int got, int due) {
        calls++;
        if (got != due && wrong++ < 20) {
            System.out.println("seed " + seed + " " + y.columns + "x" + y.rows + " e" + y.elements + " t" + y.tracks
                    + ": " + call + " answered " + got + ", due is " + due + "\n" + latest);
        }
    }

    private void same(String call, boolean got, boolean due) {
        same(call, got ? 1 : 0, due ? 1 : 0);
    }

    private int compile(String text) {
        latest = text;
        for (int from = 0; from < text.length(); ) {
            int n = Math.min(r.nextInt(5) == 0 ? r.nextInt(21) : 20, text.length() - from);
            int[] f = Texts.five(text, from);
            x.feed(f[0], f[1], f[2], f[3], f[4]);
            y.feed(f);
            same("end", x.end(n), y.end(n));
            from += n;
        }
        int fault = x.compile();
        same("compile", fault, y.compile());
        if (fault >= 0 && fault < 7) FAULTS[fault]++;
        return fault;
    }

    private void looks() {
        for (int k = -1; k <= 18; k++) same("look " + k, x.look(k), y.look(k));
    }

    private void compiled() {
        for (int l = -1; l <= Math.max(0, y.look(3)); l++)
            for (int k = -1; k <= 5; k++) same("lut " + l + " " + k, x.lut(l, k), y.lut(l, k));
        for (int e = -1; e <= Math.max(0, y.look(5)); e++)
            for (int k = -1; k <= 4; k++) same("element " + e + " " + k, x.element(e, k), y.element(e, k));
        placed();
        values();
    }

    private void placed() {
        for (int n = -1; n <= Math.max(0, y.look(7)); n++) {
            int most = 4 + Math.max(0, y.net(n, 1));
            for (int k = -1; k <= most; k++) same("net " + n + " " + k, x.net(n, k), y.net(n, k));
        }
        for (int t = -1; t <= y.columns * y.rows; t++) same("tile " + t, x.tile(t), y.tile(t));
        for (int p = -1; p <= y.pads.size(); p++) same("pad " + p, x.pad(p), y.pad(p));
        for (int w = -1; w <= y.wires.size(); w++) same("owner " + w, x.owner(w), y.owner(w));
    }

    private void values() {
        int[] more = {Math.max(0, y.look(1)), Math.max(0, y.look(2)), Math.max(0, y.look(3))};
        for (int k = 0; k < 3; k++)
            for (int s = -1; s < more[k] + 8; s++) same("value " + (200 * k + s), x.value(200 * k + s), y.value(200 * k + s));
        for (int o = -1; o <= Math.max(0, y.look(4)); o++) same("out " + o, x.out(o), y.out(o));
    }

    private void bits() {
        for (int i = -1; i <= y.bits.size(); i++) same("bit " + i, x.bit(i), y.bit(i));
    }

    private void probes(int some) {
        for (int k = 0; k < some; k++) {
            int what = r.nextInt(5) - (r.nextInt(10) == 0 ? 1 : 0);
            int most = what == 0 ? y.wires.size() : what == 1 ? y.pads.size() : y.columns * y.rows * y.elements;
            int i = r.nextInt(most + 2) - 1;
            int due = y.probe(what, i);
            if (due == -2) restless++;
            same("probe " + what + " " + i, x.probe(what, i), due);
        }
    }

    /** Meaning and field, both from the beginning: what the outputs say must be one. */
    private void beside() {
        for (int k = 0; k < 3; k++) {
            for (int p = 0; p < y.pads.size(); p++) {
                int what = y.pad(p);
                if (what == SecondReading.NONE || what >= 200) continue;
                boolean v = r.nextBoolean();
                same("drive", x.drive(what, v), true);
                y.drive(what, v);
                same("level", x.level(p, v), true);
                y.level(p, v);
            }
            for (int p = 0; p < y.pads.size(); p++)
                if (y.pad(p) >= 200) same("the field beside the meaning at pad " + p, x.probe(1, p), x.out(y.pad(p) - 200));
            int n = r.nextInt(3);
            same("clock", x.clock(n), y.clock(n));
            same("tick", x.tick(n), y.tick(n));
        }
        probes(4);
    }

    private void flips(int some) {
        int cornerBits = (y.columns + 1) * (y.rows + 1) * 6 * y.tracks;
        for (int k = 0; k < some; k++) {
            int from = r.nextInt(3) == 0 ? y.bits.size() - cornerBits : 0;
            int i = from + r.nextInt(y.bits.size() + 1 - from);
            same("flip " + i, x.flip(i), y.flip(i));
        }
    }

    private void places() {
        if (r.nextBoolean()) {
            boolean pads = r.nextBoolean();
            int most = pads ? y.pads.size() : y.columns * y.rows;
            int a = r.nextInt(most + 2) - 1;
            int b = r.nextInt(most + 2) - 1;
            int slack = r.nextInt(4) == 0 ? r.nextInt() : r.nextInt(7) - 2;
            same("swap", x.swap(pads, a, b, slack), y.swap(pads, a, b, slack));
        } else {
            int c = r.nextInt();
            int n = r.nextInt(5) == 0 ? 0 : r.nextInt(12);
            same("shake", x.shake(c, n), y.shake(c, n));
        }
    }

    private void routes() {
        int rounds = r.nextInt(12) == 0 ? r.nextInt(24) - 1 : r.nextInt(3) == 0 ? 1 + r.nextInt(20) : 1 + r.nextInt(3);
        int took = x.route(rounds);
        same("route " + rounds, took, y.route(rounds));
        if (took >= 0 && took < 23) ROUNDS[took]++;
    }

    private void act() {
        switch (r.nextInt(12)) {
            case 0: case 1: places(); break;
            case 2: case 3: routes(); placed(); break;
            case 4:
                boolean burnt = x.burn();
                same("burn", burnt, y.burn());
                if (burnt) bits();
                if (burnt && y.look(15) == 0) beside();
                break;
            case 5: flips(1 + r.nextInt(20)); break;
            case 6:
                int p = r.nextInt(y.pads.size() + 2) - 1;
                boolean v = r.nextBoolean();
                same("level", x.level(p, v), y.level(p, v));
                break;
            case 7:
                int n = r.nextInt(6) - 1;
                same("tick " + n, x.tick(n), y.tick(n));
                break;
            case 8:
                x.start();
                y.start();
                break;
            case 9:
                int i = r.nextInt(10) - 1;
                same("drive", x.drive(i, true), y.drive(i, true));
                n = r.nextInt(5) - 1;
                same("clock", x.clock(n), y.clock(n));
                values();
                break;
            default: probes(3); break;
        }
    }

    private void run(int mostIns, int texts, int acts) {
        looks();
        for (int k = 0; k < texts; k++) {
            String text = Texts.good(r, y.pads.size(), y.columns * y.rows * y.elements, mostIns);
            if (r.nextInt(4) == 0) text = Texts.spoilt(r, text);
            if (r.nextInt(200) == 0) text = Texts.manyNames(r);
            compile(text);
            looks();
            compiled();
            for (int a = 0; a < acts; a++) {
                act();
                looks();
            }
        }
    }

    private static void faultsAlone(int count) {
        for (int seed = 0; seed < count; seed++) {
            Random q = new Random(seed);
            SecondReadingTest t = new SecondReadingTest(seed, 1 + q.nextInt(6), 1 + q.nextInt(6), 1 + q.nextInt(4), 1);
            String text = Texts.good(q, t.y.pads.size(), 12, 8);
            t.compile(q.nextInt(15) == 0 ? Texts.manyNames(q) : Texts.spoilt(q, text));
            t.looks();
        }
    }

    public static void main(String[] args) {
        int small = args.length > 0 ? Integer.parseInt(args[0]) : 400;
        long first = args.length > 1 ? Long.parseLong(args[1]) : 0;
        for (long seed = first; seed < first + small; seed++) {
            Random q = new Random(seed);
            int side = 1 + q.nextInt(3);
            SecondReadingTest t = new SecondReadingTest(seed, 1 + q.nextInt(side), 1 + q.nextInt(side),
                    1 + q.nextInt(4), 1 + q.nextInt(q.nextBoolean() ? 3 : 10));
            t.run(q.nextBoolean() ? 8 : 4, 3, 25);
        }
        for (long seed = first; seed < first + Math.max(1, small / 60); seed++) {
            Random q = new Random(seed);
            new SecondReadingTest(seed, 3 + q.nextInt(4), 3 + q.nextInt(4), 1 + q.nextInt(4), 1 + q.nextInt(5)).run(5, 1, 8);
        }
        faultsAlone(small * 5);
        System.out.println(calls + " answers compared, " + wrong + " wrong; faults 0 .. 6: "
                + java.util.Arrays.toString(FAULTS) + ", rounds 0 .. 22: " + java.util.Arrays.toString(ROUNDS)
                + ", restless " + restless);
        if (wrong > 0) System.exit(1);
    }
}
