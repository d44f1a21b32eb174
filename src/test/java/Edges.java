import java.io.IOException;
import java.nio.file.Files;
import java.nio.file.Path;
import java.util.HashSet;
import java.util.Set;

/**
 * The frame of the tests of boundary cases (those that are called ..EdgesTest): each test is of one
 * sentence of the document and quotes it, and the quoted words must stand in the document there.
 */
abstract class Edges {
    static final int NONE = -1;
    static final int LEAST = Integer.MIN_VALUE;
    static final int MOST = Integer.MAX_VALUE;

    /** On 2 x 1 tiles, 2 elements, 2 tracks: LUT y, and latch q in an element of its own; NETS a, b, q, y. */
    static final String AND = ".inputs a b\n.outputs y q\n.names a b y\n11 1\n.latch y q 1\n.end\n";

    private static final Path DOCUMENT = Path.of("../shared/DOC.md");
    private static final Set<String> QUOTED = new HashSet<>();
    private static String document;
    private static String sentence = "";
    private static int checks;
    private static int wrong;

    /** A test of a sentence of the section 'Terms'. */
    static void of(String quote, Runnable test) {
        of("Terms", quote, test);
    }

    /** A test of a sentence of a promise. */
    static void of(int promise, String quote, Runnable test) {
        of("Promise " + promise + ":", quote, test);
    }

    static void of(String section, String quote, Runnable test) {
        sentence = section + " " + quote;
        if (!sectionOf(section).contains(quote)) say("these words do not stand there");
        if (!QUOTED.add(sentence)) say("there is a test of this sentence already");
        int before = checks;
        test.run();
        if (checks == before) say("nothing was tested");
    }

    private static String sectionOf(String title) {
        if (document == null) document = read();
        int from = document.indexOf("## " + title);
        int to = document.indexOf(" ## ", from + 1);
        return from < 0 ? "" : document.substring(from, to < 0 ? document.length() : to);
    }

    /** The document on one line, without the marks that stand round its blocks. */
    private static String read() {
        try {
            return Files.readString(DOCUMENT).replace("```text", " ").replace("```", " ").replaceAll("\\s+", " ");
        } catch (IOException e) {
            say(DOCUMENT + " can't be read");
            return "";
        }
    }

    private static void say(String what) {
        wrong++;
        System.out.println(sentence + "\n    " + what);
    }

    static void due(String what, int got, int want) {
        checks++;
        if (got != want) say(what.replace("\n", "\\n") + " answered " + got + ", due is " + want);
    }

    static void due(String what, boolean got, boolean want) {
        due(what, got ? 1 : 0, want ? 1 : 0);
    }

    static void row(String what, int[] got, int... want) {
        due("how many: " + what, got.length, want.length);
        for (int i = 0; i < Math.min(got.length, want.length); i++) due(what + ", " + i, got[i], want[i]);
    }

    /** An object with a text that has no fault. */
    static GateField with(String text, int columns, int rows, int elements, int tracks) {
        GateField f = new GateField(columns, rows, elements, tracks);
        due("compile of " + text, Texts.compile(f, text), 0);
        return f;
    }

    static GateField and() {
        return with(AND, 2, 1, 2, 2);
    }

    static GateField routed() {
        GateField f = and();
        due("route(20)", f.route(20), 3);
        return f;
    }

    /** An object that had a text, but has none any more. */
    static GateField faulty() {
        GateField f = routed();
        due("a FAULT", Texts.compile(f, ".what"), 1);
        return f;
    }

    /** " i0 i1 .." or the like. */
    static String many(String letter, int count) {
        StringBuilder b = new StringBuilder();
        for (int i = 0; i < count; i++) b.append(' ').append(letter).append(i);
        return b.toString();
    }

    /** Lines with as many .names without INS: n0, n1, .. */
    static String luts(int count) {
        return many("n", count).replace(" ", "\n.names ");
    }

    /** Lines with as many latches, q0 the D of all: q0, q1, .. */
    static String latches(int count) {
        return many("q", count).replace(" ", "\n.latch q0 ");
    }

    static int[] lutOf(GateField f, int l) {
        return new int[] {f.lut(l, 0), f.lut(l, 1), f.lut(l, 2), f.lut(l, 3), f.lut(l, 4)};
    }

    static int[] elementOf(GateField f, int e) {
        return new int[] {f.element(e, 0), f.element(e, 1), f.element(e, 2), f.element(e, 3)};
    }

    static int[] padsOf(GateField f) {
        int[] row = new int[f.look(9)];
        for (int p = 0; p < row.length; p++) row[p] = f.pad(p);
        return row;
    }

    static int[] ownersOf(GateField f) {
        int[] row = new int[f.look(10)];
        for (int w = 0; w < row.length; w++) row[w] = f.owner(w);
        return row;
    }

    /** Puts what is at one pad to another, whatever that makes of the nets. */
    static void movePad(GateField f, int what, int to) {
        int[] row = padsOf(f);
        for (int p = 0; p < row.length; p++) if (row[p] == what) f.swap(true, p, to, MOST);
        due("pad " + to, f.pad(to), what);
    }

    static void close(String section) {
        System.out.println(wrong + " wrong of " + checks + " answers to " + QUOTED.size() + " sentences of " + section);
        if (wrong > 0) System.exit(1);
    }
}
