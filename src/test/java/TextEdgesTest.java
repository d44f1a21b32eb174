/** Boundary cases of THE TEXT and its FAULTS. */
public final class TextEdgesTest extends Edges {
    private static final String EIGHT = ".inputs a b c d e f g h\n";
    private static final String ONE_IN = ".inputs a\n.names a y\n";

    public static void main(String[] args) {
        lines();
        firstFaults();
        furtherFaults();
        laterFaults();
        covers();
        close("THE TEXT");
    }

    private static void lines() {
        of("THE TEXT has bytes 32 .. 126, 9 and 10.", TextEdgesTest::bytes);
        of("LINES end with a byte 10, or the text's end.", TextEdgesTest::lineEnds);
        of("A # begins a comment, up to the line's end.", TextEdgesTest::comments);
        of("WORDS: what stands between BLANKS (32, 9), comments and the line's ends.", TextEdgesTest::words);
        of("Lines without a word count for nothing.", TextEdgesTest::emptyLines);
        of("A line begins with .inputs (one or more NAMES behind it)", TextEdgesTest::inputs);
        of(".outputs (likewise)", TextEdgesTest::outputs);
        of(".latch (NAME D, NAME Q, perhaps a word 0 or 1: INITIAL, 0 without)", TextEdgesTest::latch);
        of(".names (up to eight NAMES that are its INS, then one that it makes)", TextEdgesTest::names);
        of(".end (nothing behind: what stands in lines behind it counts for nothing)", TextEdgesTest::end);
        of("lines with a word of as many signs 0 1 - as it has INS, and a word 0 or 1", TextEdgesTest::coverLines);
        of("with the latter word alone if it has none.", TextEdgesTest::coverWithoutIns);
        of("NAME: any WORD of up to 12 bytes that does not begin with . .", TextEdgesTest::name);
    }

    private static void firstFaults() {
        of("with the place (from 0) of the first one met from left to right", TextEdgesTest::firstPlace);
        of("1 what can't stand there (a WORD at its beginning", TextEdgesTest::wrongWord);
        of("a missing one at the line's end, behind a comment", TextEdgesTest::missingWord);
        of("a COVER's line that is none, or where none may be, likewise", TextEdgesTest::wrongCover);
        of("a first word of other than so many signs at its beginning", TextEdgesTest::wrongSigns);
    }

    private static void furtherFaults() {
        of("a NAME of more than 12 bytes", TextEdgesTest::longName);
        of("a ninth INS (told as soon as a tenth word, whatever it is, stands there)", TextEdgesTest::ninthIn);
        of("the 151st different NAME", TextEdgesTest::tooManyNames);
        of("the first NAME by which inputs and outputs are more than PADS", TextEdgesTest::tooManyPads);
        of("3 (at it) an input, Q, or what .names makes, that something ahead makes already",
                TextEdgesTest::madeTwice);
        of("in a COVER a word 0 or 1 that is not the one of the line ahead.", TextEdgesTest::otherSign);
        of("At one place the lowest number counts.", TextEdgesTest::lowestNumber);
    }

    private static void laterFaults() {
        of("Then: 4", TextEdgesTest::orderOfFaults);
        of("4 a NAME that nothing makes, where it is used first (of all these the first place).",
                TextEdgesTest::notMade);
        of("5 (at the word .names) of the .names in the text that have no NUMBER the first", TextEdgesTest::loops);
        of(".names get NUMBERS one by one, each time the first in the text without one, all INS of which are "
                + "inputs, Qs or made by one with a NUMBER.", TextEdgesTest::numbers);
        of("6 more ELEMENTS (see there) than the field has (place NONE).", TextEdgesTest::tooManyElements);
    }

    private static void covers() {
        of("A COVER with 1s says where its function is 1: where the INS are as in one of its lines (- any; INS "
                + "that are one NAME twice count as two)", TextEdgesTest::ones);
        of("with 0s likewise where it is 0", TextEdgesTest::zeros);
        of("without lines it is 0.", TextEdgesTest::noLines);
    }

    /** The place is where a ^ stands in the text, which is left out; NONE without. */
    private static void fault(GateField f, int number, String marked) {
        String text = marked.replace("^", "");
        due("compile of " + marked, Texts.compile(f, text), number);
        due("the place in " + marked, f.look(0), marked.indexOf('^'));
        due("compiled: " + marked, f.look(12), number == 0 ? 1 : 0);
    }

    private static void fault(int number, String marked) {
        fault(new GateField(6, 6, 4, 1), number, marked);
    }

    private static GateField good(String text) {
        return with(text, 6, 6, 4, 1);
    }

    private static void inputs(String text, int count) {
        due("inputs of " + text, good(text).look(1), count);
    }

    private static void outputs(String text, int count) {
        due("outputs of " + text, good(text).look(4), count);
    }

    private static void bytes() {
        for (int b = 0; b < 256; b++) {
            GateField f = new GateField(1, 1, 1, 1);
            f.feed(b << 24, 0, 0, 0, 0);
            boolean may = b >= 32 && b <= 126 || b == 9 || b == 10;
            due("byte " + b, f.end(1), may ? 1 : NONE);
        }
        for (char b = 33; b <= 126; b++)
            if (b != '#' && b != '.') outputs(".inputs " + b + "\n.outputs " + b, 1);
    }

    private static void lineEnds() {
        good("");
        good("\n");
        outputs(".inputs a\n.outputs a", 1);
        outputs(".inputs a\n.outputs a\n", 1);
        due("a COVER at the text's end", good(ONE_IN + "1 1").lut(0, 4), 43690);
        fault(1, ".inputs a ^.outputs a");
        fault(1, ".inputs a\n.outputs^");
        fault(1, ".inputs a\n.outputs^\n");
    }

    private static void comments() {
        good("#");
        good("#.what");
        good("#\n##\n#");
        fault(1, "#a\n^.what");
        inputs(".inputs a#b c", 1);
        inputs(".inputs a # b # c\n", 1);
        outputs(".inputs a #\n.outputs a", 1);
        fault(1, ".outputs#a^\n.inputs a");
    }

    private static void words() {
        inputs("\t .inputs\t\ta \tb\t#c", 2);
        inputs(".inputs a#", 1);
        inputs(".inputs\ta", 1);
        inputs(" .inputs a \t", 1);
        fault(1, "^a.inputs b");
        fault(1, "^.inputs.a");
        fault(1, "^.input a");
        fault(1, "^.inputsa b");
    }

    private static void emptyLines() {
        GateField f = good("\n \t\n#c\n.inputs a\n\n.names a y\n\n \t\n# c\n1 1\n\n  #\n0 1\n\n");
        due("both lines are of its COVER", f.lut(0, 4), 65535);
        good("\n\n\n");
        due("4000 of them", good("\n".repeat(4000)).look(3), 0);
    }

    private static void inputs() {
        fault(1, ".inputs^");
        fault(1, ".inputs \t^\n.inputs a");
        inputs(".inputs a", 1);
        inputs(".inputs a b\n.inputs c", 3);
        inputs(".inputs" + many("i", 48), 48);
    }

    private static void outputs() {
        fault(1, ".inputs a\n.outputs^");
        fault(1, ".inputs a\n.outputs ^\n.outputs a");
        outputs(".inputs a\n.outputs a", 1);
        outputs(".outputs a a\n.outputs a\n.inputs a", 3);
        outputs(".latch q q\n.outputs" + " q".repeat(48), 48);
    }

    private static void latch() {
        due("0 without", good(".latch q q").value(200), 0);
        due("0", good(".latch q q 0").value(200), 0);
        due("1", good(".latch q q 1").value(200), 1);
        due("NAMES 1 and 1", good(".latch 1 1").value(200), 0);
        due("NAMES 1 and 1", good(".latch 1 1 1").value(200), 1);
        fault(1, ".latch^");
        fault(1, ".latch d^\n");
        fault(1, ".latch q q ^2");
        fault(1, ".latch q q ^00");
        fault(1, ".latch q q ^-");
        fault(1, ".latch q q ^q");
        fault(1, ".latch q q 1 ^1");
        fault(1, ".latch q q 0 ^x # c");
    }

    private static void names() {
        fault(1, ".names^");
        due("without INS", good(".names y").look(3), 1);
        due("one", good(ONE_IN).look(3), 1);
        due("eight", good(EIGHT + ".names a b c d e f g h y\n11111111 1").look(3), 9);
        for (String line : new String[] {"11111111 0\n", "00000000 1\n"}) {
            GateField f = good(EIGHT + ".names a b c d e f g h y\n" + line + ".names a b c d e f g h z\n");
            row("one of eight behind it, without lines", lutOf(f, 9), NONE, NONE, NONE, NONE, 0);
            due("no more LUTs", f.look(3), 10);
        }
        due("eight times the same one", good(".inputs a\n.names a a a a a a a a y\n11111111 1").look(3), 9);
        fault(2, EIGHT + ".names a b c d e f g h ^a y\n");
    }

    private static void end() {
        good(".end");
        good(".end # x");
        inputs(".inputs a\n.end\n.what\nhello\n.inputs a\n.inputs averylongnameindeed", 1);
        outputs(".inputs a\n.outputs a\n.end\n.outputs a\n", 1);
        due("no COVER behind it", good(ONE_IN + ".end\n1 1").lut(0, 4), 0);
        fault(1, ".end ^x");
        fault(1, ".end ^.end");
        fault(1, ".end\t^0\n");
        fault(4, ".outputs ^y\n.end\n.names y");
    }

    private static void coverLines() {
        due("1", good(ONE_IN + "1 1").lut(0, 4), 43690);
        due("0", good(ONE_IN + "0 1").lut(0, 4), 21845);
        due("-", good(ONE_IN + "- 1").lut(0, 4), 65535);
        String eight = EIGHT + ".names a b c d e f g h y\n";
        due("eight signs", good(eight + "1------- 1").lut(0, 0), 0);
        due("eight signs", good(eight + "-------1 1").lut(0, 0), 7);
        fault(1, eight + "^1111111 1");
        fault(1, eight + "^111111111 1");
        fault(1, ONE_IN + "1 ^-");
        fault(1, ONE_IN + "1 ^11");
        fault(1, ONE_IN + "1 1 ^1");
    }

    private static void coverWithoutIns() {
        due("1", good(".names y\n1").value(400), 1);
        due("0", good(".names y\n0").value(400), 0);
        due("twice", good(".names y\n1\n1").value(400), 1);
        fault(1, ".names y\n^-");
        fault(1, ".names y\n^11");
        fault(1, ".names y\n1 ^1");
        fault(1, ".names y\n^- 1");
    }

    private static void name() {
        inputs(".inputs 0 1 - a. a.b a A ab abc , ~", 11);
        inputs(".inputs twelve_bytes", 1);
        outputs(".inputs twelve_bytes twelve_byteS\n.outputs twelve_bytes", 1);
        fault(2, ".inputs ^thirteen_byte");
        fault(1, ".inputs ^.");
        fault(1, ".inputs ^.a");
        fault(4, ".inputs ab abcd\n.outputs ^abc");
        fault(4, ".inputs abcd\n.outputs ^abce");
    }

    private static void firstPlace() {
        fault(1, "^x");
        fault(1, ".inputs a ^.b .c");
        fault(1, ".inputs ^.b a a");
        fault(3, ".inputs a ^a .b");
        fault(3, ".inputs a ^a\n.what");
        fault(2, ".inputs a ^thirteen_byte a");
        fault(1, " ".repeat(3999) + "^x");
        fault(1, ".inputs" + " ".repeat(3993) + "^");
        fault(1, "\n".repeat(3991) + ".outputs^\n");
    }

    private static void wrongWord() {
        fault(1, "^.what");
        fault(1, "^.");
        fault(1, " \t^.Inputs a");
        fault(1, "^hello");
        fault(1, ".inputs a  ^.b");
        fault(1, ".outputs ^.b");
        fault(1, ".latch ^.d q");
        fault(1, ".latch d ^.q");
        fault(1, ".names ^.a y");
        fault(1, ".names a ^.y");
        fault(1, ".latch q q \t^two");
        fault(1, ".end \t ^x y");
    }

    private static void missingWord() {
        fault(1, ".inputs^");
        fault(1, ".inputs  ^");
        fault(1, ".inputs #x ^\n.inputs a");
        fault(1, ".outputs#^\n");
        fault(1, ".latch # d q^");
        fault(1, ".latch d \t^\nq");
        fault(1, ".inputs a\n.latch^");
        fault(1, ".inputs a\n.latch a^\n");
        fault(1, ".latch d#q^\n");
        fault(1, ".names # y^\n");
        fault(1, ONE_IN + "1^");
        fault(1, ONE_IN + "1 # 1^\n1 1");
        fault(1, ONE_IN + "1 1\n1 ^\n1 1");
    }

    private static void wrongCover() {
        fault(1, ONE_IN + "1 ^2");
        fault(1, ONE_IN + "1 ^.end");
        fault(1, ONE_IN + "1 1 ^0#");
        fault(1, "^1");
        fault(1, "\n ^0 1");
        fault(1, ".inputs a\n^1 1");
        fault(1, ".latch q q\n^1");
        fault(1, ".names y\n.outputs y\n^1");
        fault(1, ONE_IN + "1 1\n.latch y q\n^0 1");
        fault(1, ".inputs a b\n.names a y\n.names a b z\n^1 1");
    }

    private static void wrongSigns() {
        fault(1, ONE_IN + "^11 1");
        fault(1, ONE_IN + "^11");
        fault(1, ONE_IN + "^2 1");
        fault(1, ONE_IN + "^x 2");
        fault(1, ".inputs a b\n.names a b y\n^1 1");
        fault(1, ".inputs a b\n.names a b y\n^1+ 1");
        fault(1, ".inputs a b\n.names a b y\n11 1\n ^1-- 1");
    }

    private static void longName() {
        good(".inputs twelve_bytes\n.outputs twelve_bytes\n.latch twelve_bytes twelve_byteQ\n"
                + ".names twelve_bytes twelve_byteY");
        fault(2, ".inputs ^thirteen_byte");
        fault(2, ".inputs a\n.outputs a ^thirteen_byte");
        fault(2, ".latch ^thirteen_byte .q");
        fault(2, ".latch a ^thirteen_byte 2");
        fault(2, ".names ^thirteen_byte y");
        fault(2, ".names ^thirteen_byte\n");
        fault(2, ".inputs ^" + "x".repeat(3992));
    }

    private static void ninthIn() {
        good(EIGHT + ".names a b c d e f g h i # j");
        fault(2, EIGHT + ".names a b c d e f g h ^i j");
        fault(2, EIGHT + ".names a b c d e f g h ^i .j");
        fault(2, EIGHT + ".names a b c d e f g h ^i thirteen_byte");
        fault(2, EIGHT + ".names a b c d e f g h ^i a b c\n.what");
        fault(3, EIGHT + ".names a b c d e f g h ^a");
        fault(1, EIGHT + ".names a b c d e f ^.g h i j");
    }

    /** 150 NAMES: so many inputs, the rest made by .names without INS. */
    private static String full(int inputs) {
        return ".inputs" + many("i", inputs) + luts(150 - inputs);
    }

    private static void tooManyNames() {
        String full = full(47) + "\n";
        due("150", good(full + ".outputs n0\n.end").look(3), 103);
        fault(2, full + ".inputs ^more");
        fault(2, full + ".outputs ^more");
        fault(2, full + ".latch ^more .q");
        fault(2, full + ".latch n0 ^more");
        fault(2, full + ".names ^more n0");
        fault(2, full + ".names n0 ^more");
        fault(3, full + ".latch n1 ^n0 more");
        good(full + "# more\n.end\n.outputs more");
    }

    private static void tooManyPads() {
        GateField least = new GateField(1, 1, 1, 1);
        fault(least, 0, EIGHT);
        fault(least, 2, ".inputs a b c d e f g h ^i j");
        fault(least, 2, EIGHT + ".outputs ^a");
        fault(least, 2, ".outputs a a a a a a a a ^a\n.inputs a");
        fault(least, 0, ".inputs a b c d\n.outputs a b c d");
        fault(least, 2, ".inputs a b c d\n.outputs a b c d\n.inputs ^e");
        fault(2, ".inputs" + many("i", 48) + " ^more");
        fault(2, ".latch q q\n.outputs" + " q".repeat(48) + "\n.outputs ^q");
    }

    private static void madeTwice() {
        fault(3, ".inputs a ^a");
        fault(3, ".inputs a\n.latch b ^a");
        fault(3, ".inputs a\n.names ^a\n");
        fault(3, ".latch b a\n.inputs ^a");
        fault(3, ".latch a a\n.latch a ^a 1");
        fault(3, ".latch b a\n.names b ^a");
        fault(3, ".names a\n.inputs b ^a");
        fault(3, ".names a\n.latch a ^a");
        fault(3, ".names a\n.names ^a");
        good(".latch a a");
        good(".names x a\n.latch a q\n.outputs a q x\n.inputs x");
    }

    private static void otherSign() {
        fault(3, ONE_IN + "1 1\n0 ^0");
        fault(3, ONE_IN + "1 0\n0 ^1");
        fault(3, ONE_IN + "1 1\n1 1\n1 ^0 0");
        fault(3, ".names y\n1\n^0");
        fault(3, ".names y\n0\n\n # c\n ^1 1");
        good(ONE_IN + "1 1\n.names a z\n1 0\n.names a w\n1 1");
    }

    private static void lowestNumber() {
        GateField least = new GateField(1, 1, 1, 1);
        fault(1, ".inputs ^.hirteen_byte");
        fault(1, EIGHT + ".names a b c d e f g h ^.i j");
        fault(least, 1, ".inputs a b c d e f g h ^.i");
        fault(1, full(47) + "\n.outputs ^.more");
        fault(2, EIGHT + ".names a b c d e f g h ^a a");
        fault(least, 2, ".inputs a b c d e f g h ^a");
        fault(1, ONE_IN + "1 1\n1 ^2");
    }

    private static void orderOfFaults() {
        fault(1, ".outputs y\n^.what");
        fault(3, ".names y y\n.names ^y");
        fault(1, ".names y y\n.end ^x");
        fault(4, ".names y y\n.outputs ^z");
        GateField least = new GateField(1, 1, 1, 1);
        fault(least, 4, ".names a\n.names b\n.outputs ^z");
        fault(least, 5, ".names a\n.names b\n^.names c c");
    }

    private static void notMade() {
        fault(4, ".outputs ^y");
        fault(4, ".latch ^d q");
        fault(4, ".names ^a y");
        fault(4, ".outputs ^z y\n.names y z x\n.latch z y");
        fault(4, ".inputs a\n.outputs a ^z\n.latch y q\n.names x w");
        fault(4, ".names a ^z y\n.inputs a");
        good(".outputs y\n.names a y\n.inputs a");
    }

    private static void loops() {
        fault(5, "^.names a a");
        fault(5, "\n \t^.names b a\n.names a b");
        fault(5, ".inputs i\n.names i x\n^.names y y\n.names z z");
        fault(5, "^.names l x\n.names l l");
        fault(5, ".names k\n^.names x k l\n.names l x");
        good(".latch y q\n.names q y\n0 1");
        StringBuilder ring = new StringBuilder("^");
        for (int n = 0; n < 150; n++) ring.append(".names n").append((n + 1) % 150).append(" n").append(n).append("\n");
        fault(5, ring.toString());
    }

    private static void numbers() {
        GateField f = good(".names b c\n1 1\n.names a b\n0 1\n.names e\n1\n.inputs a");
        row("b has NUMBER 0", lutOf(f, 0), 0, NONE, NONE, NONE, 21845);
        row("then c, the first in the text", lutOf(f, 1), 400, NONE, NONE, NONE, 43690);
        row("then e", lutOf(f, 2), NONE, NONE, NONE, NONE, 65535);
        f = good(".names c d\n1 1\n.names b c\n1 1\n.names q b\n1 1\n.latch d q");
        row("b", lutOf(f, 0), 200, NONE, NONE, NONE, 43690);
        row("c", lutOf(f, 1), 400, NONE, NONE, NONE, 43690);
        row("d", lutOf(f, 2), 401, NONE, NONE, NONE, 43690);
        f = good(".names b b c\n11 1\n.names b");
        row("INS twice", lutOf(f, 1), 400, 400, NONE, NONE, 34952);
    }

    private static void tooManyElements() {
        GateField least = new GateField(1, 1, 1, 1);
        fault(least, 0, ".names a");
        fault(least, 6, ".names a\n.names b");
        fault(least, 0, ".latch q q");
        fault(least, 6, ".latch q q\n.latch q r");
        fault(least, 0, ".names y\n.latch y q");
        fault(least, 6, ".names y\n.latch y q\n.outputs y");
        String five = ".inputs a b c d e\n.names a b c d e y\n";
        fault(least, 0, five + "1-111 1");
        fault(least, 6, five + "11111 1");
        fault(new GateField(2, 1, 1, 1), 6, five + "11111 1");
        fault(new GateField(3, 1, 1, 1), 0, five + "11111 1");
        fault(0, luts(144));
        fault(6, luts(145));
        fault(0, latches(144));
        fault(6, latches(145));
        fault(0, luts(143) + "\n.latch q q");
        fault(6, luts(143) + "\n.latch n0 q\n.latch n0 r");
    }

    /** The output y for all levels of the inputs, input 0 being the lowest bit. */
    private static void values(String text, int inputs, int... want) {
        GateField f = good(text);
        for (int n = 0; n < 1 << inputs; n++) {
            for (int i = 0; i < inputs; i++) f.drive(i, (n >> i & 1) == 1);
            due(text + " at " + n, f.out(0), want[n]);
        }
    }

    private static void ones() {
        String two = ".inputs a b\n.outputs y\n.names a b y\n";
        values(two + "10 1", 2, 0, 1, 0, 0);
        values(two + "01 1", 2, 0, 0, 1, 0);
        values(two + "1- 1", 2, 0, 1, 0, 1);
        values(two + "-1 1\n00 1", 2, 1, 0, 1, 1);
        values(two + "-- 1", 2, 1, 1, 1, 1);
        String same = ".inputs a\n.outputs y\n.names a a y\n";
        values(same + "10 1", 1, 0, 0);
        values(same + "11 1", 1, 0, 1);
        row("two pins of one NAME", lutOf(good(same + "10 1"), 0), 0, 0, NONE, NONE, 8738);
    }

    private static void zeros() {
        String two = ".inputs a b\n.outputs y\n.names a b y\n";
        values(two + "10 0", 2, 1, 0, 1, 1);
        values(two + "1- 0", 2, 1, 0, 1, 0);
        values(two + "-1 0\n00 0", 2, 0, 1, 0, 0);
        values(two + "-- 0", 2, 0, 0, 0, 0);
        values(".outputs y\n.names y\n0", 0, 0);
    }

    private static void noLines() {
        values(".inputs a b\n.outputs y\n.names a b y\n", 2, 0, 0, 0, 0);
        values(".outputs y\n.names y", 0, 0);
        row("no pins", lutOf(good(ONE_IN), 0), NONE, NONE, NONE, NONE, 0);
    }
}
