import java.util.ArrayList;
import java.util.Collections;
import java.util.List;
import java.util.Random;

/** Texts for the tests: how they come to the tape, and such that are made by chance. */
final class Texts {
    private Texts() { }

    /** The five ints whose bytes are the text's from a place on (0 behind its end). */
    static int[] five(String text, int from) {
        int[] five = new int[5];
        for (int i = 0; i < 20; i++) {
            int b = from + i < text.length() ? text.charAt(from + i) : 0;
            five[i / 4] |= b << 8 * (3 - i % 4);
        }
        return five;
    }

    /** Brings a text to the tape: what the last end() answered. */
    static int tape(GateField f, String text) {
        int answer = 0;
        for (int from = 0; from < text.length(); from += 20) {
            int[] five = five(text, from);
            f.feed(five[0], five[1], five[2], five[3], five[4]);
            answer = f.end(Math.min(20, text.length() - from));
        }
        return answer;
    }

    static int compile(GateField f, String text) {
        tape(f, text);
        return f.compile();
    }

    private static String blank(Random r) {
        String[] some = {" ", "  ", "\t", " \t "};
        return some[r.nextInt(10) < 7 ? 0 : r.nextInt(some.length)];
    }

    private static String lineEnd(Random r) {
        int k = r.nextInt(12);
        return k == 0 ? " # more\n" : k == 1 ? "#x\n\n" : k == 2 ? " \t\n  # .end\n" : "\n";
    }

    private static String line(Random r, List<String> words) {
        StringBuilder b = new StringBuilder(r.nextInt(8) == 0 ? " " : "");
        for (int i = 0; i < words.size(); i++) b.append(i > 0 ? blank(r) : "").append(words.get(i));
        return b.append(lineEnd(r)).toString();
    }

    private static String pick(Random r, List<String> list) {
        return list.get(r.nextInt(list.size()));
    }

    private static String gate(Random r, List<String> ins, String made) {
        List<String> words = new ArrayList<>(List.of(".names"));
        words.addAll(ins);
        words.add(made);
        StringBuilder b = new StringBuilder(line(r, words));
        String sign = r.nextInt(3) == 0 ? "0" : "1";
        int lines = r.nextInt(6) == 0 ? 0 : 1 + r.nextInt(ins.size() > 4 ? 6 : 3);
        String signs = r.nextBoolean() ? "01-" : "0011-----";
        for (int k = 0; k < lines; k++) {
            StringBuilder cover = new StringBuilder();
            for (int i = 0; i < ins.size(); i++) cover.append(signs.charAt(r.nextInt(signs.length())));
            b.append(line(r, ins.isEmpty() ? List.of(sign) : List.of(cover.toString(), sign)));
        }
        return b.toString();
    }

    /** Mostly without a fault: inputs, latches and gates of up to MOST_INS, in any order. */
    static String good(Random r, int pads, int places, int mostIns) {
        List<String> known = new ArrayList<>();
        List<String> made = new ArrayList<>();
        List<String> parts = new ArrayList<>();
        int inputs = r.nextInt(Math.min(pads, 8) + 1);
        for (int i = 0; i < inputs; i++) known.add("i" + i);
        List<String> latchNames = new ArrayList<>();
        int latches = r.nextInt(Math.min(places, 6) + 1);
        for (int j = 0; j < latches; j++) latchNames.add("q" + j);
        known.addAll(latchNames);
        List<String> names = new ArrayList<>(known);
        int count = r.nextInt(Math.max(1, places - latches) + 1);
        for (int g = 0; g < count; g++) {
            List<String> ins = new ArrayList<>();
            int width = r.nextInt(3) == 0 ? r.nextInt(mostIns + 1) : r.nextInt(Math.min(mostIns, 4) + 1);
            for (int i = 0; i < width && !names.isEmpty(); i++) ins.add(pick(r, names));
            parts.add(gate(r, ins, "g" + g));
            names.add("g" + g);
            made.add("g" + g);
        }
        if (r.nextInt(60) == 0 && !made.isEmpty()) parts.add(gate(r, List.of("loop", pick(r, made)), "loop"));
        for (String q : latchNames) {
            List<String> words = new ArrayList<>(List.of(".latch", pick(r, r.nextBoolean() && !made.isEmpty() ? made : names), q));
            if (r.nextBoolean()) words.add(r.nextBoolean() ? "0" : "1");
            parts.add(line(r, words));
        }
        int outputs = names.isEmpty() ? 0 : r.nextInt(Math.min(pads - inputs, 8) + 1);
        for (int o = 0; o < outputs; o += 2) {
            List<String> words = new ArrayList<>(List.of(".outputs", pick(r, names)));
            if (o + 1 < outputs) words.add(pick(r, names));
            parts.add(line(r, words));
        }
        if (r.nextInt(3) == 0) Collections.shuffle(parts, r);
        StringBuilder text = new StringBuilder();
        for (int i = 0; i < inputs; i += 3) {
            List<String> words = new ArrayList<>(List.of(".inputs"));
            for (int k = i; k < inputs && k < i + 3; k++) words.add("i" + k);
            if (r.nextInt(4) == 0) parts.add(r.nextInt(parts.size() + 1), line(r, words));
            else text.append(line(r, words));
        }
        for (String p : parts) text.append(p);
        if (r.nextInt(3) == 0) text.append(".end").append(lineEnd(r)).append(r.nextBoolean() ? "junk .x\n" : "");
        return text.length() > 4000 ? text.substring(0, 4000) : text.toString();
    }

    /** A few bytes of a text put in, left out, or made others. */
    static String spoilt(Random r, String text) {
        StringBuilder b = new StringBuilder(text);
        String some = " \t\n#.01-abiqg0123456789~";
        for (int k = r.nextInt(3); k >= 0 && b.length() > 0; k--) {
            int at = r.nextInt(b.length());
            char sign = some.charAt(r.nextInt(some.length()));
            switch (r.nextInt(4)) {
                case 0: b.setCharAt(at, sign); break;
                case 1: b.deleteCharAt(at); break;
                case 2: b.insert(at, sign); break;
                default: b.insert(at, pickLine(r)); break;
            }
        }
        return b.length() > 4000 ? b.substring(0, 4000) : b.toString();
    }

    private static String pickLine(Random r) {
        String[] some = {"\n.names\n", "\n.inputs # none\n", "\n.outputs\n", "\n.latch i0\n", "\n.latch i0 zz 2\n",
            "\n.latch i0 zz 1 1\n", "\n.names i0 i0 i0 i0 i0 i0 i0 i0 i0 i0\n", "\n.names a b c d e f g h .i j\n",
            "\n.names 1 2 3 4 5 6 7 8 9\n", "\n.names thirteenbytes zz\n", "\n.names twelve_bytes zz\n",
            "\n.end behind\n", "\n.what\n", "\n0\n", "\n1 1\n", "\n.names k0\n1\n0\n", "\n.names k1\n1 1\n",
            "\n.outputs i0 i0 i0 i0 i0 i0 i0 i0 i0 i0 i0 i0 i0 i0 i0 i0 i0 i0 i0 i0 i0 i0\n", "\n.inputs i0\n",
            "\n.latch i0 i0\n", "\n.names i0 nn\n2 1\n", "\n.names i0 nn\n1\n", "\n.names i0 nn\n1 1 1\n",
            "\n.names i0 nn\n10 1\n", "\n.names unmade nn\n", "\n.names i0 nn\n1 1\n0 0\n"};
        return some[r.nextInt(some.length)];
    }

    /** About as many names as there may be: the edge at 150. */
    static String manyNames(Random r) {
        StringBuilder b = new StringBuilder(".inputs i\n");
        int count = 145 + r.nextInt(8);
        for (int n = 0; n < count; n++) b.append(".names i n").append(n).append(r.nextInt(20) == 0 ? "\n1 1\n" : "\n");
        return b.toString();
    }
}
