import java.util.Random;

/** Any arguments in any state: no call throws, and each answer is one that the document knows. */
public final class AnyArgumentsTest {
    private static final int[] EDGES = {Integer.MIN_VALUE, Integer.MIN_VALUE + 1, -1000, -2, -1, 0, 1, 2, 3, 4, 5, 6, 7,
        8, 9, 15, 16, 17, 18, 19, 20, 21, 47, 48, 143, 144, 149, 150, 199, 200, 201, 255, 399, 400, 401, 543, 544, 839,
        840, 999, 1000, 1001, 15515, 15516, 65535, Integer.MAX_VALUE - 1, Integer.MAX_VALUE};

    private static int any(Random r) {
        int k = r.nextInt(10);
        return k == 0 ? r.nextInt() : k < 6 ? r.nextInt(30) - 1 : EDGES[r.nextInt(EDGES.length)];
    }

    private static int call(GateField f, Random r) {
        int a = any(r);
        int b = any(r);
        boolean v = r.nextBoolean();
        switch (r.nextInt(27)) {
            case 0: f.feed(r.nextInt(), a, b, r.nextInt(), 0x20202020); return 0;
            case 1: return f.end(a);
            case 2: return f.compile();
            case 3: return f.look(a);
            case 4: return f.lut(a, b);
            case 5: return f.element(a, b);
            case 6: return f.net(a, b);
            case 7: return f.tile(a);
            case 8: return f.pad(a);
            case 9: return f.swap(v, a, b, any(r));
            case 10: return f.shake(r.nextInt(), a);
            case 11: return f.route(a);
            case 12: return f.owner(a);
            case 13: return f.burn() ? 1 : 0;
            case 14: return f.bit(a);
            case 15: return f.flip(r.nextBoolean() ? a : r.nextInt(f.look(11)));
            case 16: f.start(); return 0;
            case 17: return f.level(a, v) ? 1 : 0;
            case 18: return f.tick(a);
            case 19: return f.probe(r.nextInt(5), b);
            case 20: return f.probe(a, b);
            case 21: return f.drive(a, v) ? 1 : 0;
            case 22: return f.clock(a) ? 1 : 0;
            case 23: return f.value(a);
            case 24: return f.out(a);
            case 25:
                String text = Texts.good(r, f.look(9), 30, 8);
                return Texts.compile(f, r.nextInt(3) == 0 ? Texts.spoilt(r, text) : text);
            default: return f.route(1 + r.nextInt(20));
        }
    }

    private static String noise(Random r) {
        String[] words = {".inputs", ".outputs", ".latch", ".names", ".end", "a", "b", "c", "d", "0", "1", "-", "11",
            "1-", "--1", "\n", "\n", "\n", "#", ".x", "aVeryLongNameIndeed"};
        StringBuilder b = new StringBuilder();
        for (int k = r.nextInt(60); k > 0; k--) b.append(words[r.nextInt(words.length)]).append(r.nextInt(9) == 0 ? "" : " ");
        return b.toString();
    }

    /** Many bits at once: fields that nobody has routed. */
    private static void turnSome(GateField f, Random r) {
        int most = r.nextInt(2000);
        for (int k = 0; k < most; k++) f.flip(r.nextInt(f.look(11)));
    }

    /** The fullest fields there are: all bits 1, and texts with as much as may be. */
    private static void full(int c, int rows, int e, int t) {
        GateField f = new GateField(c, rows, e, t);
        for (int i = 0; i < f.look(11); i++) f.flip(i);
        f.start();
        f.tick(3);
        for (int w = 0; w < f.look(10); w++) f.probe(0, w);
        StringBuilder text = new StringBuilder(".inputs");
        int inputs = Math.min(f.look(9) - 2, 10);
        for (int i = 0; i < inputs; i++) text.append(" ").append((char) ('a' + i));
        for (int g = 0; g < c * rows * e && g < 140; g++) {
            text.append("\n.names");
            for (int i = 0; i < 4; i++) text.append(" ").append((char) ('a' + (g + i * i) % inputs));
            text.append(" ").append((char) ('A' + g % 26)).append(g / 26).append("\n1111 1");
        }
        text.append("\n.outputs");
        int made = Math.min(26, c * rows * e);
        for (int o = inputs; o < f.look(9); o++) text.append(" ").append((char) ('A' + (o - inputs) % made)).append(0);
        int fault = Texts.compile(f, text.toString());
        if (fault != 0) throw new IllegalStateException("fault " + fault + " at " + f.look(0) + " in " + text);
        f.shake(99, 1000);
        for (int r = 1; r <= 20; r += 6) if (f.route(r) > 0) f.burn();
        f.tick(1000);
    }

    public static void main(String[] args) {
        int wrong = 0;
        for (int c = 1; c <= 6; c++)
            for (int e = 1; e <= 4; e++) full(c, 7 - c, e, 10 - c);
        full(6, 6, 4, 10);
        full(1, 1, 1, 10);
        full(6, 6, 4, 1);
        for (int seed = 0; seed < 400; seed++) {
            Random r = new Random(seed);
            try {
                GateField f = new GateField(any(r), any(r), any(r), any(r));
                for (int k = 0; k < 512; k++) {
                    int answer = call(f, r);
                    if (answer < -2) throw new IllegalStateException("answer " + answer);
                    if (r.nextInt(60) == 0) Texts.compile(f, noise(r));
                    if (r.nextInt(100) == 0) turnSome(f, r);
                }
            } catch (RuntimeException | Error e) {
                wrong++;
                System.out.println("seed " + seed + ": " + e);
                e.printStackTrace(System.out);
            }
        }
        System.out.println(wrong + " runs of 400 threw");
        if (wrong > 0) System.exit(1);
    }
}
