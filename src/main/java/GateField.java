import java.util.Arrays;

/**
 * A field of gates: a text of functions and latches becomes look-up tables of four inputs, these
 * are packed, placed, routed and written as bits; the field that is made of bits can be run,
 * beside the text's own meaning.
 */
public final class GateField {
    public static final int NONE = -1;

    private static final int RESTLESS = -2;
    private static final int MOST_BYTES = 4000;
    private static final int MOST_READY = 20;
    private static final int MOST_NAMES = 150;
    private static final int MOST_LETTERS = 12;
    private static final int MOST_INS = 8;
    private static final int MOST_CYCLES = 1000;
    private static final int MOST_ROUNDS = 20;
    private static final int PINS = 4;
    private static final int SIDES = 4;
    private static final int FIRST_LATCH = 200;
    private static final int FIRST_LUT = 400;
    private static final int FIRST_OUTPUT = 200;
    private static final int TABLE_BITS = 16;
    private static final int PIN_BITS = 6;
    private static final int USED_BIT = 16;
    private static final int INITIAL_BIT = 17;
    private static final int FIRST_PIN_BIT = 18;
    private static final int FIRST_OUT_BIT = 42;
    private static final int PAD_BITS = 6;
    private static final int PAIRS = 6;
    private static final int PAD_IN = 1;
    private static final int PAD_OUT = 2;

    private final Grid grid;
    private final Text text;
    private final Gates gates;
    private final Reader reader;
    private final Circuit circuit;
    private final Mapper mapper;
    private final Packing packing;
    private final Placing placing;
    private final Router router;
    private final Field field;
    private boolean compiled;
    private int faultPlace = NONE;

    public GateField(int columns, int rows, int elements, int tracks) {
        grid = new Grid(nearest(columns, 6), nearest(rows, 6), nearest(elements, 4),
                nearest(tracks, 10));
        text = new Text();
        gates = new Gates();
        reader = new Reader(text, gates, grid.pads);
        circuit = new Circuit(grid.places, grid.pads);
        mapper = new Mapper(circuit);
        packing = new Packing(grid, circuit);
        placing = new Placing(grid, packing);
        router = new Router(grid, packing, placing);
        field = new Field(grid);
    }

    private static int nearest(int wish, int most) {
        return Math.max(1, Math.min(most, wish));
    }

    public void feed(int a, int b, int c, int d, int e) {
        text.putReady(0, a);
        text.putReady(4, b);
        text.putReady(8, c);
        text.putReady(12, d);
        text.putReady(16, e);
    }

    public int end(int n) {
        return text.takeReady(n);
    }

    public int compile() {
        text.open();
        forget();
        int fault = reader.read();
        faultPlace = reader.place;
        if (fault == 0 && !build()) {
            fault = 6;
        }
        compiled = fault == 0;
        if (!compiled) {
            forget();
        }
        return fault;
    }

    private void forget() {
        circuit.clear();
        packing.clear();
        placing.clear();
        router.drop();
    }

    private boolean build() {
        mapper.mapAll(gates, reader);
        if (circuit.luts > grid.places) {
            return false;
        }
        circuit.take(reader);
        if (!packing.pack()) {
            return false;
        }
        placing.begin();
        return true;
    }

    public int look(int what) {
        if (what >= 1 && what <= 8) {
            return compiled ? lookCompiled(what) : NONE;
        }
        switch (what) {
            case 0: return faultPlace;
            case 9: return grid.pads;
            case 10: return grid.wires;
            case 11: return grid.bits;
            case 12: return !compiled ? 0 : router.rounds == 0 ? 1 : 2;
            case 13: return router.rounds;
            case 14: return router.wiresHad();
            case 15: return circuit.clocks;
            case 16: return field.ticks;
            default: return NONE;
        }
    }

    private int lookCompiled(int what) {
        switch (what) {
            case 1: return circuit.inputs;
            case 2: return circuit.latches;
            case 3: return circuit.luts;
            case 4: return circuit.outputs;
            case 5: return packing.elements;
            case 6: return packing.clusters;
            case 7: return packing.nets;
            default: return placing.length;
        }
    }

    public int lut(int l, int what) {
        if (l < 0 || l >= circuit.luts || what < 0 || what > PINS) {
            return NONE;
        }
        return what == PINS ? circuit.table[l] : circuit.pin[l * PINS + what];
    }

    public int element(int e, int what) {
        if (e < 0 || e >= packing.elements) {
            return NONE;
        }
        switch (what) {
            case 0: return e < circuit.luts ? e : NONE;
            case 1: return packing.latchIn[e];
            case 2: return packing.cluster[e];
            case 3: return packing.place[e];
            default: return NONE;
        }
    }

    public int net(int n, int what) {
        if (n < 0 || n >= packing.nets || what < 0) {
            return NONE;
        }
        int first = packing.firstSink[n];
        int sinks = packing.firstSink[n + 1] - first;
        switch (what) {
            case 0: return packing.netSource[n];
            case 1: return sinks;
            case 2: return router.wiresOf(n);
            default: return what - 3 < sinks ? router.endOf(first + what - 3) : NONE;
        }
    }

    public int tile(int t) {
        return t < 0 || t >= grid.tiles ? NONE : placing.thing[t];
    }

    public int pad(int p) {
        if (p < 0 || p >= grid.pads) {
            return NONE;
        }
        int thing = placing.thing[grid.tiles + p];
        if (thing == NONE) {
            return NONE;
        }
        int number = thing - grid.tiles;
        return number < grid.pads ? number : FIRST_OUTPUT + number - grid.pads;
    }

    public int swap(boolean pads, int a, int b, int slack) {
        int first = pads ? grid.tiles : 0;
        int count = pads ? grid.pads : grid.tiles;
        if (!compiled || a < 0 || a >= count || b < 0 || b >= count) {
            return NONE;
        }
        router.drop();
        placing.exchange(first + a, first + b, slack);
        return placing.length;
    }

    public int shake(int c, int n) {
        if (!compiled || n < 0 || n > MOST_CYCLES) {
            return NONE;
        }
        if (n > 0) {
            router.drop();
        }
        int coin = c;
        for (int i = 0; i < n; i++) {
            placing.throwCoin(coin);
            coin = coin * 1103515245 + 12345;
        }
        return placing.length;
    }

    public int route(int rounds) {
        if (!compiled || rounds < 1 || rounds > MOST_ROUNDS) {
            return NONE;
        }
        return router.work(rounds);
    }

    public int owner(int wire) {
        return wire < 0 || wire >= grid.wires ? NONE : router.keeperOf(wire);
    }

    public boolean burn() {
        if (router.rounds == 0) {
            return false;
        }
        field.erase();
        packing.write(field, placing);
        router.write(field);
        field.begin();
        return true;
    }

    public int bit(int i) {
        return i < 0 || i >= grid.bits ? NONE : field.bits[i];
    }

    public int flip(int i) {
        return i < 0 || i >= grid.bits ? NONE : field.turn(i);
    }

    public void start() {
        field.begin();
    }

    public boolean level(int p, boolean v) {
        if (p < 0 || p >= grid.pads) {
            return false;
        }
        field.setPad(p, v ? 1 : 0);
        return true;
    }

    public int tick(int n) {
        return n < 0 || n > MOST_CYCLES ? NONE : field.run(n);
    }

    public int probe(int what, int i) {
        if (!field.canAsk(what, i)) {
            return NONE;
        }
        if (what == 3) {
            return field.latch[i];
        }
        return field.settle() ? field.ask(what, i) : RESTLESS;
    }

    public boolean drive(int i, boolean v) {
        if (i < 0 || i >= circuit.inputs) {
            return false;
        }
        circuit.setInput(i, v ? 1 : 0);
        return true;
    }

    public boolean clock(int n) {
        if (!compiled || n < 0 || n > MOST_CYCLES) {
            return false;
        }
        circuit.run(n);
        return true;
    }

    public int value(int source) {
        return circuit.valueOf(source);
    }

    public int out(int o) {
        return o < 0 || o >= circuit.outputs ? NONE : circuit.valueOf(circuit.output[o]);
    }

    /**
     * Where things are: SPOTS (tile t is spot t, pad p is spot tiles + p), wires, joints, and the
     * first of the bits of each. A joint is one of the six pairs at a corner's track.
     */
    private static final class Grid {
        final int columns;
        final int rows;
        final int elements;
        final int tracks;
        final int tiles;
        final int pads;
        final int places;
        final int wires;
        final int bits;
        final int elementBits;
        final int firstPadBit;
        final int firstJointBit;
        final int[] spotX;
        final int[] spotY;
        final int[] touch;
        final int[] jointA;
        final int[] jointB;
        final int[] degree;
        final int[] neighbour;
        final int[] joint;

        Grid(int columns, int rows, int elements, int tracks) {
            this.columns = columns;
            this.rows = rows;
            this.elements = elements;
            this.tracks = tracks;
            tiles = columns * rows;
            pads = 4 * (columns + rows);
            places = tiles * elements;
            wires = (columns * (rows + 1) + (columns + 1) * rows) * tracks;
            int joints = (columns + 1) * (rows + 1) * tracks * PAIRS;
            elementBits = FIRST_OUT_BIT + SIDES * tracks;
            firstPadBit = places * elementBits;
            firstJointBit = firstPadBit + pads * (PAD_BITS + tracks);
            bits = firstJointBit + joints;
            spotX = new int[tiles + pads];
            spotY = new int[tiles + pads];
            touch = new int[(tiles + pads) * SIDES];
            jointA = new int[joints];
            jointB = new int[joints];
            degree = new int[wires];
            neighbour = new int[wires * PAIRS];
            joint = new int[wires * PAIRS];
            Arrays.fill(touch, NONE);
            setTiles();
            setPads();
            setJoints();
            setNeighbours();
        }

        private int across(int x, int y) {
            boolean there = x >= 0 && x < columns && y >= 0 && y <= rows;
            return there ? (y * columns + x) * tracks : NONE;
        }

        private int upright(int x, int y) {
            boolean there = x >= 0 && x <= columns && y >= 0 && y < rows;
            int behind = columns * (rows + 1) * tracks;
            return there ? behind + (y * (columns + 1) + x) * tracks : NONE;
        }

        private void setTiles() {
            for (int y = 0; y < rows; y++) {
                for (int x = 0; x < columns; x++) {
                    int t = y * columns + x;
                    spotX[t] = x + 1;
                    spotY[t] = y + 1;
                    touch[t * SIDES] = across(x, y);
                    touch[t * SIDES + 1] = across(x, y + 1);
                    touch[t * SIDES + 2] = upright(x, y);
                    touch[t * SIDES + 3] = upright(x + 1, y);
                }
            }
        }

        private void setPads() {
            for (int x = 0; x < columns; x++) {
                setPadPair(x, x + 1, 0, across(x, 0));
                setPadPair(columns + x, x + 1, rows + 1, across(x, rows));
            }
            for (int y = 0; y < rows; y++) {
                setPadPair(2 * columns + y, 0, y + 1, upright(0, y));
                setPadPair(2 * columns + rows + y, columns + 1, y + 1, upright(columns, y));
            }
        }

        private void setPadPair(int k, int x, int y, int wire) {
            for (int p = 2 * k; p < 2 * k + 2; p++) {
                spotX[tiles + p] = x;
                spotY[tiles + p] = y;
                touch[(tiles + p) * SIDES] = wire;
            }
        }

        private void setJoints() {
            for (int y = 0; y <= rows; y++) {
                for (int x = 0; x <= columns; x++) {
                    int left = across(x - 1, y);
                    int right = across(x, y);
                    int lower = upright(x, y - 1);
                    int upper = upright(x, y);
                    int first = (y * (columns + 1) + x) * tracks * PAIRS;
                    setJoint(first, left, right);
                    setJoint(first + 1, left, lower);
                    setJoint(first + 2, left, upper);
                    setJoint(first + 3, right, lower);
                    setJoint(first + 4, right, upper);
                    setJoint(first + 5, lower, upper);
                }
            }
        }

        private void setJoint(int first, int a, int b) {
            boolean there = a != NONE && b != NONE;
            for (int t = 0; t < tracks; t++) {
                jointA[first + t * PAIRS] = there ? a + t : NONE;
                jointB[first + t * PAIRS] = there ? b + t : NONE;
            }
        }

        private void setNeighbours() {
            for (int j = 0; j < jointA.length; j++) {
                if (jointA[j] != NONE) {
                    addNeighbour(jointA[j], jointB[j], j);
                    addNeighbour(jointB[j], jointA[j], j);
                }
            }
        }

        private void addNeighbour(int wire, int other, int j) {
            int at = wire * PAIRS + degree[wire];
            neighbour[at] = other;
            joint[at] = j;
            degree[wire]++;
        }

        /** SIDE * TRACKS + t of a wire that a spot touches (a pad's side is 0), else NONE. */
        int reach(int spot, int wire) {
            for (int side = 0; side < SIDES; side++) {
                int first = touch[spot * SIDES + side];
                if (first != NONE && wire >= first && wire < first + tracks) {
                    return side * tracks + wire - first;
                }
            }
            return NONE;
        }

        int padBit(int p) {
            return firstPadBit + p * (PAD_BITS + tracks);
        }
    }

    /** The tape, the bytes that are ready for it, and the words of the text that it becomes. */
    private static final class Text {
        final byte[] tape = new byte[MOST_BYTES];
        final byte[] ready = new byte[MOST_READY];
        int size;
        int length;
        int at;
        int from;
        int to;

        void putReady(int first, int four) {
            for (int i = 0; i < 4; i++) {
                ready[first + i] = (byte) (four >>> 24 - 8 * i);
            }
        }

        int takeReady(int n) {
            if (n < 0 || n > MOST_READY || size + n > MOST_BYTES) {
                return NONE;
            }
            for (int i = 0; i < n; i++) {
                int b = ready[i];
                if (b != 9 && b != 10 && (b < 32 || b > 126)) {
                    return NONE;
                }
            }
            System.arraycopy(ready, 0, tape, size, n);
            size += n;
            Arrays.fill(ready, (byte) 0);
            return size;
        }

        void open() {
            length = size;
            size = 0;
            at = 0;
        }

        /** Goes to the next word of the line; without one, to the line's end, and FROM is that. */
        boolean nextWord() {
            while (at < length && isBlank(tape[at])) {
                at++;
            }
            if (at < length && tape[at] == '#') {
                skipLine();
            }
            from = at;
            while (at < length && !isBlank(tape[at]) && tape[at] != '#' && tape[at] != '\n') {
                at++;
            }
            to = at;
            return to > from;
        }

        private static boolean isBlank(int b) {
            return b == ' ' || b == '\t';
        }

        private void skipLine() {
            while (at < length && tape[at] != '\n') {
                at++;
            }
        }

        /** Goes to the next line's beginning: false if there is none. */
        boolean nextLine() {
            skipLine();
            at++;
            return at < length;
        }

        boolean hasDot() {
            return from < to && tape[from] == '.';
        }

        boolean isWord(String word) {
            if (to - from != word.length()) {
                return false;
            }
            for (int i = 0; i < word.length(); i++) {
                if (tape[from + i] != word.charAt(i)) {
                    return false;
                }
            }
            return true;
        }

        boolean isSame(int place, int letters) {
            if (letters != to - from) {
                return false;
            }
            for (int i = 0; i < letters; i++) {
                if (tape[place + i] != tape[from + i]) {
                    return false;
                }
            }
            return true;
        }

        /** 0 or 1, if the word is that alone, else NONE. */
        int digit() {
            if (to - from != 1) {
                return NONE;
            }
            return tape[from] == '0' ? 0 : tape[from] == '1' ? 1 : NONE;
        }

        boolean isSigns(int count) {
            if (to - from != count) {
                return false;
            }
            for (int i = from; i < to; i++) {
                if (tape[i] != '0' && tape[i] != '1' && tape[i] != '-') {
                    return false;
                }
            }
            return true;
        }

        /** Bit i is 1 where sign i of the word is this one. */
        int maskOf(int sign) {
            int mask = 0;
            for (int i = 0; i < MOST_INS && from + i < to; i++) {
                if (tape[from + i] == sign) {
                    mask |= 1 << i;
                }
            }
            return mask;
        }
    }

    /** The .names of the text: INS and what they make (numbers of names), and their functions. */
    private static final class Gates {
        static final int WORDS = 8;

        final int[] place = new int[MOST_NAMES];
        final int[] width = new int[MOST_NAMES];
        final int[] in = new int[MOST_NAMES * MOST_INS];
        final int[] made = new int[MOST_NAMES];
        final int[] sign = new int[MOST_NAMES];
        final int[] cover = new int[MOST_NAMES * WORDS];
        final int[] number = new int[MOST_NAMES];
        final int[] order = new int[MOST_NAMES];
        int count;

        void clear() {
            count = 0;
            Arrays.fill(sign, NONE);
            Arrays.fill(cover, 0);
            Arrays.fill(number, NONE);
        }

        /** The words are INS, and behind them the name that is made. */
        int add(int where, int[] word, int ins) {
            int g = count;
            place[g] = where;
            width[g] = ins;
            System.arraycopy(word, 0, in, g * MOST_INS, ins);
            made[g] = word[ins];
            count++;
            return g;
        }

        boolean agree(int g, int digit) {
            if (sign[g] == NONE) {
                sign[g] = digit;
            }
            return sign[g] == digit;
        }

        void addLine(int g, int care, int want) {
            int ways = 1 << width[g];
            for (int n = 0; n < ways; n++) {
                if ((n & care) == want) {
                    cover[g * WORDS + (n >>> 5)] |= 1 << (n & 31);
                }
            }
        }

        int valueAt(int g, int n) {
            int covered = cover[g * WORDS + (n >>> 5)] >>> (n & 31) & 1;
            return sign[g] == 0 ? 1 - covered : covered;
        }

        void giveNumbers(int[] maker) {
            for (int n = 0; n < count; n++) {
                int g = firstReady(maker);
                if (g == NONE) {
                    return;
                }
                number[g] = n;
                order[n] = g;
            }
        }

        private int firstReady(int[] maker) {
            for (int g = 0; g < count; g++) {
                if (number[g] == NONE && isReady(g, maker)) {
                    return g;
                }
            }
            return NONE;
        }

        private boolean isReady(int g, int[] maker) {
            for (int i = 0; i < width[g]; i++) {
                int source = maker[in[g * MOST_INS + i]];
                if (source >= Reader.FIRST_GATE && number[source - Reader.FIRST_GATE] == NONE) {
                    return false;
                }
            }
            return true;
        }

        int firstWithoutNumber() {
            for (int g = 0; g < count; g++) {
                if (number[g] == NONE) {
                    return g;
                }
            }
            return NONE;
        }
    }

    /** Reads the text: names, inputs, outputs, latches and gates, or the fault. */
    private static final class Reader {
        /** What makes a name is its SOURCE; FIRST_GATE + g as long as gate g is not mapped. */
        static final int FIRST_GATE = 1000;

        final Text text;
        final Gates gates;
        final int pads;
        final int[] nameFrom = new int[MOST_NAMES];
        final int[] nameLetters = new int[MOST_NAMES];
        final int[] maker = new int[MOST_NAMES];
        final int[] outputName;
        final int[] latchName = new int[MOST_NAMES];
        final int[] latchFirst = new int[MOST_NAMES];
        final int[] word = new int[MOST_INS + 1];
        int names;
        int inputs;
        int outputs;
        int latches;
        int fault;
        int place;
        int open;
        boolean ended;

        Reader(Text text, Gates gates, int pads) {
            this.text = text;
            this.gates = gates;
            this.pads = pads;
            outputName = new int[pads];
        }

        int read() {
            clear();
            for (int line = 0; line <= MOST_BYTES; line++) {
                readLine();
                if (fault != 0 || ended || !text.nextLine()) {
                    break;
                }
            }
            if (fault == 0) {
                checkMakers();
            }
            if (fault == 0) {
                checkLoops();
            }
            return fault;
        }

        private void clear() {
            gates.clear();
            names = 0;
            inputs = 0;
            outputs = 0;
            latches = 0;
            fault = 0;
            place = NONE;
            open = NONE;
            ended = false;
            Arrays.fill(maker, NONE);
        }

        private void refuse(int number, int where) {
            fault = number;
            place = where;
        }

        private void readLine() {
            if (!text.nextWord()) {
                return;
            }
            if (!text.hasDot()) {
                readCover();
                return;
            }
            open = NONE;
            if (text.isWord(".inputs")) {
                readPadNames(true);
            } else if (text.isWord(".outputs")) {
                readPadNames(false);
            } else if (text.isWord(".latch")) {
                readLatch();
            } else if (text.isWord(".names")) {
                readNames();
            } else if (text.isWord(".end")) {
                ended = true;
                refuseMore();
            } else {
                refuse(1, text.from);
            }
        }

        private void refuseMore() {
            if (text.nextWord()) {
                refuse(1, text.from);
            }
        }

        private void readPadNames(boolean in) {
            for (int n = 0; n < MOST_BYTES; n++) {
                if (!text.nextWord()) {
                    if (n == 0) {
                        refuse(1, text.from);
                    }
                    return;
                }
                int name = takeName();
                if (name == NONE) {
                    return;
                }
                if (inputs + outputs >= pads) {
                    refuse(2, text.from);
                    return;
                }
                if (!in) {
                    outputName[outputs++] = name;
                } else if (make(name, inputs, text.from)) {
                    inputs++;
                } else {
                    return;
                }
            }
        }

        private void readLatch() {
            int d = nextName();
            int q = d == NONE ? NONE : nextName();
            if (q == NONE || !make(q, FIRST_LATCH + latches, text.from) || latches >= MOST_NAMES) {
                return;
            }
            int first = text.nextWord() ? text.digit() : 0;
            if (first == NONE) {
                refuse(1, text.from);
                return;
            }
            latchName[latches] = d;
            latchFirst[latches] = first;
            latches++;
            refuseMore();
        }

        private void readNames() {
            int where = text.from;
            int last = where;
            int words = 0;
            while (words <= MOST_INS + 1 && text.nextWord()) {
                if (words > MOST_INS) {
                    refuse(2, last);
                    return;
                }
                last = text.from;
                word[words] = takeName();
                if (word[words] == NONE) {
                    return;
                }
                words++;
            }
            if (words == 0) {
                refuse(1, text.from);
            } else if (make(word[words - 1], FIRST_GATE + gates.count, last)
                    && gates.count < MOST_NAMES) {
                open = gates.add(where, word, words - 1);
            }
        }

        private void readCover() {
            if (open == NONE || gates.width[open] > 0 && !text.isSigns(gates.width[open])) {
                refuse(1, text.from);
                return;
            }
            int ones = 0;
            int care = 0;
            if (gates.width[open] > 0) {
                ones = text.maskOf('1');
                care = ones | text.maskOf('0');
                text.nextWord();
            }
            int digit = text.digit();
            if (digit == NONE) {
                refuse(1, text.from);
            } else if (!gates.agree(open, digit)) {
                refuse(3, text.from);
            } else {
                gates.addLine(open, care, ones);
                refuseMore();
            }
        }

        private int nextName() {
            if (text.nextWord()) {
                return takeName();
            }
            refuse(1, text.from);
            return NONE;
        }

        /** The number of the name that the word is; NONE, with a fault, if it can't be one. */
        private int takeName() {
            if (text.hasDot()) {
                refuse(1, text.from);
                return NONE;
            }
            int letters = text.to - text.from;
            if (letters > MOST_LETTERS) {
                refuse(2, text.from);
                return NONE;
            }
            for (int n = 0; n < names; n++) {
                if (text.isSame(nameFrom[n], nameLetters[n])) {
                    return n;
                }
            }
            if (names >= MOST_NAMES) {
                refuse(2, text.from);
                return NONE;
            }
            nameFrom[names] = text.from;
            nameLetters[names] = letters;
            return names++;
        }

        private boolean make(int name, int source, int where) {
            if (maker[name] != NONE) {
                refuse(3, where);
                return false;
            }
            maker[name] = source;
            return true;
        }

        /** Names are kept as they come, so the first that nothing makes has the first place. */
        private void checkMakers() {
            for (int n = 0; n < names; n++) {
                if (maker[n] == NONE) {
                    refuse(4, nameFrom[n]);
                    return;
                }
            }
        }

        private void checkLoops() {
            gates.giveNumbers(maker);
            int g = gates.firstWithoutNumber();
            if (g != NONE) {
                refuse(5, gates.place[g]);
            }
        }
    }

    /** What the text says: LUTs, latches, inputs and outputs, and its MEANING. */
    private static final class Circuit {
        final int most;
        final int[] pin;
        final int[] table;
        final int[] lutLevel;
        final int[] inputLevel;
        final int[] output;
        final int[] latchSource = new int[MOST_NAMES];
        final int[] latchFirst = new int[MOST_NAMES];
        final int[] latchLevel = new int[MOST_NAMES];
        final int[] latchNext = new int[MOST_NAMES];
        int luts;
        int latches;
        int inputs;
        int outputs;
        int clocks;
        boolean fresh;

        Circuit(int most, int pads) {
            this.most = most;
            pin = new int[most * PINS];
            table = new int[most];
            lutLevel = new int[most];
            inputLevel = new int[pads];
            output = new int[pads];
        }

        void clear() {
            luts = 0;
            latches = 0;
            inputs = 0;
            outputs = 0;
            clocks = 0;
            fresh = false;
            Arrays.fill(inputLevel, 0);
        }

        /** LUTs that the field has no room for are counted alone, so that they can be refused. */
        int addLut(int[] source, int width, int bits) {
            if (luts < most) {
                for (int p = 0; p < PINS; p++) {
                    pin[luts * PINS + p] = p < width ? source[p] : NONE;
                }
                table[luts] = bits;
            }
            luts++;
            return FIRST_LUT + luts - 1;
        }

        void take(Reader reader) {
            inputs = reader.inputs;
            outputs = reader.outputs;
            latches = reader.latches;
            for (int o = 0; o < outputs; o++) {
                output[o] = reader.maker[reader.outputName[o]];
            }
            for (int j = 0; j < latches; j++) {
                latchSource[j] = reader.maker[reader.latchName[j]];
                latchFirst[j] = reader.latchFirst[j];
                latchLevel[j] = latchFirst[j];
            }
        }

        void setInput(int i, int level) {
            inputLevel[i] = level;
            fresh = false;
        }

        int valueOf(int source) {
            if (source >= 0 && source < inputs) {
                return inputLevel[source];
            }
            if (source >= FIRST_LATCH && source < FIRST_LATCH + latches) {
                return latchLevel[source - FIRST_LATCH];
            }
            if (source >= FIRST_LUT && source < FIRST_LUT + luts) {
                refresh();
                return lutLevel[source - FIRST_LUT];
            }
            return NONE;
        }

        /** A LUT's pins are of LUTs with lower numbers alone, so that one pass is enough. */
        private void refresh() {
            if (fresh) {
                return;
            }
            fresh = true;
            for (int l = 0; l < luts; l++) {
                int n = 0;
                for (int p = 0; p < PINS; p++) {
                    int source = pin[l * PINS + p];
                    if (source != NONE) {
                        n |= levelOf(source) << p;
                    }
                }
                lutLevel[l] = table[l] >>> n & 1;
            }
        }

        private int levelOf(int source) {
            if (source < FIRST_LATCH) {
                return inputLevel[source];
            }
            return source < FIRST_LUT ? latchLevel[source - FIRST_LATCH]
                    : lutLevel[source - FIRST_LUT];
        }

        void run(int n) {
            clocks += n;
            for (int i = 0; i < n; i++) {
                if (!runOnce()) {
                    return;
                }
            }
        }

        /** One CLOCK: false if no latch has changed, as none will at further ones then. */
        private boolean runOnce() {
            refresh();
            boolean changed = false;
            for (int j = 0; j < latches; j++) {
                latchNext[j] = levelOf(latchSource[j]);
                changed |= latchNext[j] != latchLevel[j];
            }
            if (changed) {
                System.arraycopy(latchNext, 0, latchLevel, 0, latches);
                fresh = false;
            }
            return changed;
        }
    }

    /** Makes LUTs of functions; a level of the recursion has a row of its own. */
    private static final class Mapper {
        static final int LEVELS = MOST_INS - PINS + 1;
        static final int CHOICE = 51914;

        final Circuit circuit;
        final byte[][] table = new byte[LEVELS][1 << MOST_INS];
        final int[][] source = new int[LEVELS][MOST_INS];

        Mapper(Circuit circuit) {
            this.circuit = circuit;
        }

        void mapAll(Gates gates, Reader reader) {
            for (int k = 0; k < gates.count; k++) {
                int g = gates.order[k];
                int width = gates.width[g];
                for (int i = 0; i < width; i++) {
                    source[0][i] = reader.maker[gates.in[g * MOST_INS + i]];
                }
                for (int n = 0; n < 1 << width; n++) {
                    table[0][n] = (byte) gates.valueAt(g, n);
                }
                reader.maker[gates.made[g]] = map(0, width);
            }
        }

        private int map(int level, int ins) {
            int width = leaveOut(level, ins);
            if (width <= PINS || level + 1 >= LEVELS) {
                return addSmall(level, Math.min(width, PINS));
            }
            int others = width - 1;
            int half = 1 << others;
            System.arraycopy(table[level], 0, table[level + 1], 0, half);
            System.arraycopy(source[level], 0, source[level + 1], 0, others);
            int low = map(level + 1, others);
            System.arraycopy(table[level], half, table[level + 1], 0, half);
            System.arraycopy(source[level], 0, source[level + 1], 0, others);
            int high = map(level + 1, others);
            int last = source[level][others];
            source[level][0] = low;
            source[level][1] = high;
            source[level][2] = last;
            return circuit.addLut(source[level], 3, CHOICE);
        }

        /** Leaves out the INS on which the function does not depend: how many are left. */
        private int leaveOut(int level, int ins) {
            int width = ins;
            for (int i = ins - 1; i >= 0; i--) {
                if (!depends(level, width, i)) {
                    remove(level, width, i);
                    width--;
                }
            }
            return width;
        }

        private boolean depends(int level, int width, int i) {
            byte[] row = table[level];
            for (int n = 0; n < 1 << width; n++) {
                if (row[n] != row[n | 1 << i]) {
                    return true;
                }
            }
            return false;
        }

        private void remove(int level, int width, int i) {
            byte[] row = table[level];
            int below = (1 << i) - 1;
            for (int n = 0; n < 1 << width - 1; n++) {
                row[n] = row[(n & ~below) << 1 | n & below];
            }
            System.arraycopy(source[level], i + 1, source[level], i, width - 1 - i);
        }

        private int addSmall(int level, int width) {
            int bits = 0;
            for (int n = 0; n < TABLE_BITS; n++) {
                bits |= table[level][n & (1 << width) - 1] << n;
            }
            return circuit.addLut(source[level], width, bits);
        }
    }

    /**
     * Elements, nets and clusters. A THING is what can be placed: cluster c is c, input i is
     * tiles + i, output o is tiles + pads + o.
     */
    private static final class Packing {
        static final int FOLLOW = 43690;
        static final int MOST_TOUCHED = PINS + 1;

        final Grid grid;
        final Circuit circuit;
        final int[] latchIn;
        final int[] elementOf = new int[MOST_NAMES];
        final int[] cluster;
        final int[] place;
        final int[] uses;
        final int[] netOf;
        final int[] netSource;
        final int[] netThing;
        final int[] firstSink;
        final int[] sink;
        final int[] sinkThing;
        final int[] touched;
        final int[] mark;
        int elements;
        int clusters;
        int nets;

        Packing(Grid grid, Circuit circuit) {
            this.grid = grid;
            this.circuit = circuit;
            int most = grid.places;
            int mostNets = grid.pads + most;
            int mostSinks = most * PINS + grid.pads;
            latchIn = new int[most];
            cluster = new int[most];
            place = new int[most];
            uses = new int[FIRST_LUT + most];
            netOf = new int[FIRST_LUT + most];
            netSource = new int[mostNets];
            netThing = new int[mostNets];
            firstSink = new int[mostNets + 1];
            sink = new int[mostSinks];
            sinkThing = new int[mostSinks];
            touched = new int[most * MOST_TOUCHED];
            mark = new int[mostNets];
        }

        void clear() {
            elements = 0;
            clusters = 0;
            nets = 0;
        }

        /** False if the field has fewer elements than there would be. */
        boolean pack() {
            if (!setElements()) {
                return false;
            }
            setNets();
            setSinks();
            setTouched();
            setClusters();
            setThings();
            return true;
        }

        private boolean setElements() {
            countSources();
            elements = circuit.luts;
            Arrays.fill(latchIn, NONE);
            for (int j = 0; j < circuit.latches; j++) {
                int d = circuit.latchSource[j];
                int e = d >= FIRST_LUT && uses[d] == 1 ? d - FIRST_LUT : elements;
                if (e >= grid.places) {
                    return false;
                }
                latchIn[e] = j;
                elementOf[j] = e;
                elements = Math.max(elements, e + 1);
            }
            return true;
        }

        private void countSources() {
            Arrays.fill(uses, 0);
            for (int i = 0; i < circuit.luts * PINS; i++) {
                if (circuit.pin[i] != NONE) {
                    uses[circuit.pin[i]]++;
                }
            }
            for (int j = 0; j < circuit.latches; j++) {
                uses[circuit.latchSource[j]]++;
            }
            for (int o = 0; o < circuit.outputs; o++) {
                uses[circuit.output[o]]++;
            }
        }

        int pinSource(int e, int p) {
            if (e < circuit.luts) {
                return circuit.pin[e * PINS + p];
            }
            return p == 0 && latchIn[e] != NONE ? circuit.latchSource[latchIn[e]] : NONE;
        }

        int madeSource(int e) {
            return latchIn[e] != NONE ? FIRST_LATCH + latchIn[e] : FIRST_LUT + e;
        }

        /** A LUT that a latch lies behind has no net: that latch alone uses it. */
        private void setNets() {
            for (int j = 0; j < circuit.latches; j++) {
                if (elementOf[j] < circuit.luts) {
                    uses[circuit.latchSource[j]] = 0;
                }
            }
            nets = 0;
            int sinks = 0;
            for (int s = 0; s < uses.length; s++) {
                netOf[s] = NONE;
                if (uses[s] > 0) {
                    netOf[s] = nets;
                    netSource[nets] = s;
                    firstSink[nets] = sinks;
                    nets++;
                    sinks += uses[s];
                }
            }
            firstSink[nets] = sinks;
        }

        private void setSinks() {
            Arrays.fill(uses, 0);
            for (int i = 0; i < elements * PINS; i++) {
                int source = pinSource(i / PINS, i % PINS);
                if (source != NONE) {
                    addSink(source, i);
                }
            }
            for (int o = 0; o < circuit.outputs; o++) {
                addSink(circuit.output[o], grid.places * PINS + o);
            }
        }

        private void addSink(int source, int code) {
            sink[firstSink[netOf[source]] + uses[source]] = code;
            uses[source]++;
        }

        /** Of an element each net once (the rest NONE): what it makes, then those of its pins. */
        private void setTouched() {
            for (int i = 0; i < elements * MOST_TOUCHED; i++) {
                int e = i / MOST_TOUCHED;
                int k = i % MOST_TOUCHED;
                int source = k == 0 ? madeSource(e) : pinSource(e, k - 1);
                int n = source == NONE ? NONE : netOf[source];
                for (int h = i - k; h < i; h++) {
                    n = touched[h] == n ? NONE : n;
                }
                touched[i] = n;
            }
        }

        private void setClusters() {
            Arrays.fill(cluster, NONE);
            Arrays.fill(mark, NONE);
            clusters = 0;
            int first = 0;
            for (int n = 0; n < elements; n++) {
                while (first < elements && cluster[first] != NONE) {
                    first++;
                }
                int k = n % grid.elements;
                if (k == 0) {
                    clusters++;
                }
                join(k == 0 ? first : closest(first), k);
            }
        }

        private void join(int e, int k) {
            if (e < 0 || e >= elements) {
                return;
            }
            cluster[e] = clusters - 1;
            place[e] = k;
            for (int i = e * MOST_TOUCHED; i < (e + 1) * MOST_TOUCHED; i++) {
                if (touched[i] != NONE) {
                    mark[touched[i]] = clusters;
                }
            }
        }

        private int closest(int first) {
            int best = NONE;
            int most = NONE;
            for (int e = first; e < elements; e++) {
                if (cluster[e] == NONE) {
                    int shared = sharedNets(e);
                    if (shared > most) {
                        most = shared;
                        best = e;
                    }
                }
            }
            return best;
        }

        private int sharedNets(int e) {
            int shared = 0;
            for (int i = e * MOST_TOUCHED; i < (e + 1) * MOST_TOUCHED; i++) {
                if (touched[i] != NONE && mark[touched[i]] == clusters) {
                    shared++;
                }
            }
            return shared;
        }

        private void setThings() {
            for (int n = 0; n < nets; n++) {
                int source = netSource[n];
                netThing[n] = source < FIRST_LATCH ? grid.tiles + source
                        : cluster[elementMaking(source)];
            }
            for (int s = 0; s < firstSink[nets]; s++) {
                sinkThing[s] = isPin(s) ? cluster[sink[s] / PINS]
                        : grid.tiles + grid.pads + sink[s] - grid.places * PINS;
            }
        }

        boolean isPin(int s) {
            return sink[s] < grid.places * PINS;
        }

        int elementMaking(int source) {
            return source < FIRST_LUT ? elementOf[source - FIRST_LATCH] : source - FIRST_LUT;
        }

        /** The bits of an element that lies on a tile begin there. */
        int firstBit(int e, int tile) {
            return (tile * grid.elements + place[e]) * grid.elementBits;
        }

        /** The bits that no route decides: tables, latches, and what the pads are. */
        void write(Field field, Placing placing) {
            for (int e = 0; e < elements; e++) {
                int first = firstBit(e, placing.spot[cluster[e]]);
                field.put(first, TABLE_BITS, e < circuit.luts ? circuit.table[e] : FOLLOW);
                if (latchIn[e] != NONE) {
                    field.put(first + USED_BIT, 1, 1);
                    field.put(first + INITIAL_BIT, 1, circuit.latchFirst[latchIn[e]]);
                }
            }
            for (int p = 0; p < grid.pads; p++) {
                int thing = placing.thing[grid.tiles + p];
                if (thing != NONE) {
                    int kind = thing < grid.tiles + grid.pads ? PAD_IN : PAD_OUT;
                    field.put(grid.padBit(p), 2, kind);
                }
            }
        }
    }

    /** Which thing is at which spot, and how long the nets are by that. */
    private static final class Placing {
        final Grid grid;
        final Packing packing;
        final int[] thing;
        final int[] spot;
        int length;

        Placing(Grid grid, Packing packing) {
            this.grid = grid;
            this.packing = packing;
            thing = new int[grid.tiles + grid.pads];
            spot = new int[grid.tiles + 2 * grid.pads];
            Arrays.fill(thing, NONE);
        }

        void clear() {
            Arrays.fill(thing, NONE);
            length = 0;
        }

        void begin() {
            for (int c = 0; c < packing.clusters; c++) {
                set(c, c);
            }
            int inputs = packing.circuit.inputs;
            for (int i = 0; i < inputs; i++) {
                set(grid.tiles + i, grid.tiles + i);
            }
            for (int o = 0; o < packing.circuit.outputs; o++) {
                set(grid.tiles + inputs + o, grid.tiles + grid.pads + o);
            }
            length = measure();
        }

        private void set(int where, int what) {
            thing[where] = what;
            if (what != NONE) {
                spot[what] = where;
            }
        }

        void exchange(int a, int b, int slack) {
            if (thing[a] == thing[b]) {
                return;
            }
            turn(a, b);
            int longer = measure();
            if (longer - length > slack) {
                turn(a, b);
            } else {
                length = longer;
            }
        }

        private void turn(int a, int b) {
            int what = thing[a];
            set(a, thing[b]);
            set(b, what);
        }

        void throwCoin(int coin) {
            boolean pads = (coin & 1) == 1;
            int first = pads ? grid.tiles : 0;
            int count = pads ? grid.pads : grid.tiles;
            int a = (coin >>> 1 & 255) % count;
            int b = (coin >>> 9 & 255) % count;
            exchange(first + a, first + b, coin >>> 17 & 7);
        }

        private int measure() {
            int sum = 0;
            for (int n = 0; n < packing.nets; n++) {
                sum += lengthOf(n);
            }
            return sum;
        }

        private int lengthOf(int n) {
            int source = spot[packing.netThing[n]];
            int left = grid.spotX[source];
            int right = left;
            int low = grid.spotY[source];
            int high = low;
            for (int s = packing.firstSink[n]; s < packing.firstSink[n + 1]; s++) {
                int at = spot[packing.sinkThing[s]];
                left = Math.min(left, grid.spotX[at]);
                right = Math.max(right, grid.spotX[at]);
                low = Math.min(low, grid.spotY[at]);
                high = Math.max(high, grid.spotY[at]);
            }
            return right - left + high - low;
        }
    }

    /** The wires that a search has come to, nearest first, of those the least number. */
    private static final class Front {
        final long[] heap;
        final int[] distance;
        int size;

        Front(int wires) {
            heap = new long[wires];
            distance = new int[wires];
        }

        void clear() {
            size = 0;
            Arrays.fill(distance, NONE);
        }

        /** A wire comes once: its way is its own cost behind one neighbour's, the nearest first. */
        void push(int wire, int far) {
            if (distance[wire] != NONE || size >= heap.length) {
                return;
            }
            distance[wire] = far;
            long key = (long) far << 10 | wire;
            int i = size;
            while (i > 0 && heap[(i - 1) / 2] > key) {
                heap[i] = heap[(i - 1) / 2];
                i = (i - 1) / 2;
            }
            heap[i] = key;
            size++;
        }

        int pop() {
            if (size == 0) {
                return NONE;
            }
            long least = heap[0];
            size--;
            long key = heap[size];
            int i = 0;
            while (2 * i + 1 < size) {
                int child = 2 * i + 1;
                if (child + 1 < size && heap[child + 1] < heap[child]) {
                    child++;
                }
                if (heap[child] >= key) {
                    break;
                }
                heap[i] = heap[child];
                i = child;
            }
            heap[i] = key;
            return (int) (least & 1023);
        }
    }

    /** Gives wires to nets in rounds, and keeps what was routed (rounds is 0 without that). */
    private static final class Router {
        final Grid grid;
        final Packing packing;
        final Placing placing;
        final Front front;
        final int words;
        final int[] had;
        final int[] count;
        final int[] past;
        final int[] link;
        final int[] keeper;
        final int[] end;
        final int[] own;
        int owned;
        int round;
        int only;
        int rounds;

        Router(Grid grid, Packing packing, Placing placing) {
            this.grid = grid;
            this.packing = packing;
            this.placing = placing;
            front = new Front(grid.wires);
            words = grid.wires + 31 >>> 5;
            had = new int[packing.netSource.length * words];
            count = new int[grid.wires];
            past = new int[grid.wires];
            link = new int[grid.wires];
            keeper = new int[grid.wires];
            end = new int[packing.sink.length];
            own = new int[grid.wires];
        }

        void drop() {
            rounds = 0;
        }

        int wiresHad() {
            int sum = 0;
            for (int n = 0; n < packing.nets; n++) {
                sum += wiresOf(n);
            }
            return sum;
        }

        int wiresOf(int n) {
            int sum = 0;
            for (int i = n * words; rounds > 0 && i < (n + 1) * words; i++) {
                sum += Integer.bitCount(had[i]);
            }
            return sum;
        }

        int endOf(int s) {
            return rounds > 0 ? end[s] : NONE;
        }

        int keeperOf(int wire) {
            return rounds > 0 ? keeper[wire] : NONE;
        }

        int work(int most) {
            rounds = 0;
            giveAllUp();
            Arrays.fill(past, 0);
            only = NONE;
            for (round = 1; round <= most; round++) {
                for (int n = 0; n < packing.nets; n++) {
                    routeNet(n);
                }
                if (isDone()) {
                    return keep(round);
                }
            }
            if (packing.nets > grid.tracks) {
                return 0;
            }
            giveAllUp();
            for (int n = 0; n < packing.nets; n++) {
                only = n;
                routeNet(n);
            }
            return keep(most + 1);
        }

        private void giveAllUp() {
            Arrays.fill(had, 0);
            Arrays.fill(count, 0);
        }

        /** If it is not done, each wire that is had more than once becomes dearer. */
        private boolean isDone() {
            boolean done = true;
            for (int w = 0; w < grid.wires; w++) {
                if (count[w] > 1) {
                    past[w] += count[w] - 1;
                    done = false;
                }
            }
            return done;
        }

        private int keep(int taken) {
            Arrays.fill(keeper, NONE);
            for (int n = 0; n < packing.nets; n++) {
                for (int w = 0; w < grid.wires; w++) {
                    if ((had[n * words + (w >>> 5)] >>> (w & 31) & 1) == 1) {
                        keeper[w] = n;
                    }
                }
            }
            rounds = taken;
            return taken;
        }

        private void routeNet(int n) {
            giveUp(n);
            int spot = placing.spot[packing.netThing[n]];
            for (int s = packing.firstSink[n]; s < packing.firstSink[n + 1]; s++) {
                end[s] = search(spot, placing.spot[packing.sinkThing[s]]);
                walkBack(n, spot, end[s]);
            }
        }

        private void giveUp(int n) {
            for (int i = 0; i < words; i++) {
                int bits = had[n * words + i];
                had[n * words + i] = 0;
                for (int b = 0; b < 32 && bits != 0; b++) {
                    if ((bits & 1) == 1) {
                        count[i * 32 + b]--;
                    }
                    bits >>>= 1;
                }
            }
            owned = 0;
        }

        /** Distances up to the wire that the sink touches first: the nearest one, its END. */
        private int search(int source, int sink) {
            front.clear();
            for (int i = 0; i < owned; i++) {
                front.push(own[i], 0);
            }
            pushTouched(source);
            for (int n = 0; n < grid.wires; n++) {
                int wire = front.pop();
                if (wire == NONE || grid.reach(sink, wire) != NONE) {
                    return wire;
                }
                int far = front.distance[wire];
                int last = wire * PAIRS + grid.degree[wire];
                for (int k = wire * PAIRS; k < last; k++) {
                    int next = grid.neighbour[k];
                    if (front.distance[next] == NONE) {
                        front.push(next, far + costOf(next));
                    }
                }
            }
            return NONE;
        }

        private void pushTouched(int source) {
            for (int side = 0; side < SIDES; side++) {
                int first = grid.touch[source * SIDES + side];
                for (int t = 0; t < grid.tracks && first != NONE; t++) {
                    if (only == NONE || only == t) {
                        front.push(first + t, costOf(first + t));
                    }
                }
            }
        }

        /** Of a wire that the net does not have: all that have it are others. */
        private int costOf(int wire) {
            return only == NONE ? (1 + past[wire]) * (1 + (round - 1) * count[wire]) : 1;
        }

        private void walkBack(int n, int source, int last) {
            int wire = last;
            for (int steps = 0; steps < grid.wires && wire != NONE; steps++) {
                int far = front.distance[wire];
                if (far == 0) {
                    return;
                }
                int cost = costOf(wire);
                gain(n, wire);
                if (far == cost && grid.reach(source, wire) != NONE) {
                    link[wire] = NONE;
                    return;
                }
                wire = joinNext(wire, far - cost);
            }
        }

        private void gain(int n, int wire) {
            own[owned++] = wire;
            had[n * words + (wire >>> 5)] |= 1 << (wire & 31);
            count[wire]++;
        }

        /** Joins a wire with its least neighbour at a distance: that one. */
        private int joinNext(int wire, int far) {
            int next = NONE;
            int last = wire * PAIRS + grid.degree[wire];
            for (int k = wire * PAIRS; k < last; k++) {
                int other = grid.neighbour[k];
                if (front.distance[other] == far && (next == NONE || other < next)) {
                    next = other;
                    link[wire] = grid.joint[k];
                }
            }
            return next;
        }

        /** The bits that the routes decide: ENDS, what is driven, and what is joined. */
        void write(Field field) {
            for (int s = 0; s < packing.firstSink[packing.nets]; s++) {
                writeEnd(field, s);
            }
            for (int w = 0; w < grid.wires; w++) {
                if (keeper[w] != NONE) {
                    int i = link[w] != NONE ? grid.firstJointBit + link[w] : drivenBit(w);
                    field.put(i, 1, 1);
                }
            }
        }

        private void writeEnd(Field field, int s) {
            int spot = placing.spot[packing.sinkThing[s]];
            int number = 1 + grid.reach(spot, end[s]);
            if (packing.isPin(s)) {
                int first = packing.firstBit(packing.sink[s] / PINS, spot) + FIRST_PIN_BIT;
                field.put(first + packing.sink[s] % PINS * PIN_BITS, PIN_BITS, number);
            } else {
                field.put(grid.padBit(spot - grid.tiles) + 2, PAD_BITS - 2, number);
            }
        }

        private int drivenBit(int wire) {
            int net = keeper[wire];
            int spot = placing.spot[packing.netThing[net]];
            int reach = grid.reach(spot, wire);
            if (spot >= grid.tiles) {
                return grid.padBit(spot - grid.tiles) + PAD_BITS + reach;
            }
            int e = packing.elementMaking(packing.netSource[net]);
            return packing.firstBit(e, spot) + FIRST_OUT_BIT + reach;
        }
    }

    /** The field of any bits: wires that are joined are one GROUP, named by its root wire. */
    private static final class Field {
        final Grid grid;
        final byte[] bits;
        final byte[] padLevel;
        final byte[] latch;
        final byte[] lut;
        final byte[] next;
        final byte[] base;
        final byte[] groupLevel;
        final int[] group;
        final int[] table;
        final int[] pinGroup;
        final int[] firstDriven;
        final int[] driven;
        int ticks;
        boolean wired;
        boolean swept;
        boolean settled;

        Field(Grid grid) {
            this.grid = grid;
            bits = new byte[grid.bits];
            padLevel = new byte[grid.pads];
            latch = new byte[grid.places];
            lut = new byte[grid.places];
            next = new byte[grid.places];
            base = new byte[grid.wires];
            groupLevel = new byte[grid.wires];
            group = new int[grid.wires];
            table = new int[grid.places];
            pinGroup = new int[grid.places * PINS];
            firstDriven = new int[grid.places + 1];
            driven = new int[grid.places * SIDES * grid.tracks];
        }

        void erase() {
            Arrays.fill(bits, (byte) 0);
            wired = false;
        }

        void put(int first, int width, int value) {
            for (int b = 0; b < width && first >= 0 && first + b < grid.bits; b++) {
                bits[first + b] = (byte) (value >>> b & 1);
            }
        }

        private int numberAt(int first, int width) {
            int number = 0;
            for (int b = 0; b < width; b++) {
                number |= bits[first + b] << b;
            }
            return number;
        }

        int turn(int i) {
            bits[i] = (byte) (1 - bits[i]);
            wired = false;
            return bits[i];
        }

        void begin() {
            for (int e = 0; e < grid.places; e++) {
                latch[e] = bits[e * grid.elementBits + INITIAL_BIT];
            }
            ticks = 0;
            swept = false;
        }

        void setPad(int p, int level) {
            padLevel[p] = (byte) level;
            swept = false;
        }

        private boolean isUsed(int e) {
            return bits[e * grid.elementBits + USED_BIT] == 1;
        }

        private int outOf(int e) {
            return isUsed(e) ? latch[e] : lut[e];
        }

        private void wire() {
            if (wired) {
                return;
            }
            wired = true;
            swept = false;
            setGroups();
            int count = 0;
            for (int e = 0; e < grid.places; e++) {
                int first = e * grid.elementBits;
                table[e] = numberAt(first, TABLE_BITS);
                setPins(e, first + FIRST_PIN_BIT);
                firstDriven[e] = count;
                count = addDriven(e, first + FIRST_OUT_BIT, count);
            }
            firstDriven[grid.places] = count;
        }

        private void setGroups() {
            for (int w = 0; w < grid.wires; w++) {
                group[w] = w;
            }
            for (int j = 0; j < grid.jointA.length; j++) {
                if (bits[grid.firstJointBit + j] == 1 && grid.jointA[j] != NONE) {
                    int a = rootOf(grid.jointA[j]);
                    int b = rootOf(grid.jointB[j]);
                    group[Math.max(a, b)] = Math.min(a, b);
                }
            }
            for (int w = 0; w < grid.wires; w++) {
                group[w] = rootOf(w);
            }
        }

        /** A wire's group is never a greater one, so that the way down to the root has an end. */
        private int rootOf(int wire) {
            int w = wire;
            for (int steps = 0; steps < grid.wires && group[w] != w; steps++) {
                group[w] = group[group[w]];
                w = group[w];
            }
            return w;
        }

        private void setPins(int e, int first) {
            int tile = e / grid.elements;
            for (int p = 0; p < PINS; p++) {
                int number = numberAt(first + p * PIN_BITS, PIN_BITS);
                boolean there = number >= 1 && number <= SIDES * grid.tracks;
                pinGroup[e * PINS + p] = there ? groupAt(tile, number - 1) : NONE;
            }
        }

        /** The group of the wire that a spot touches at SIDE * TRACKS + t. */
        private int groupAt(int spot, int reach) {
            int side = reach / grid.tracks;
            int track = reach % grid.tracks;
            int first = grid.touch[spot * SIDES + side];
            return first == NONE ? NONE : group[first + track];
        }

        private int addDriven(int e, int first, int count) {
            int added = count;
            for (int i = 0; i < SIDES * grid.tracks; i++) {
                if (bits[first + i] == 1) {
                    driven[added] = groupAt(e / grid.elements, i);
                    added++;
                }
            }
            return added;
        }

        /** False if it is restless. */
        boolean settle() {
            wire();
            if (swept) {
                return settled;
            }
            swept = true;
            Arrays.fill(lut, (byte) 0);
            setBase();
            settled = false;
            for (int n = 0; n <= grid.places && !settled; n++) {
                settled = !sweep();
            }
            return settled;
        }

        /** What pads and latches drive stays as it is for all sweeps. */
        private void setBase() {
            Arrays.fill(base, (byte) 0);
            for (int p = 0; p < grid.pads; p++) {
                int first = grid.padBit(p);
                if (padLevel[p] == 1 && numberAt(first, 2) == PAD_IN) {
                    drivePad(p, first + PAD_BITS);
                }
            }
            for (int e = 0; e < grid.places; e++) {
                if (isUsed(e) && latch[e] == 1) {
                    raise(base, e);
                }
            }
        }

        private void drivePad(int p, int first) {
            for (int t = 0; t < grid.tracks; t++) {
                if (bits[first + t] == 1) {
                    base[groupAt(grid.tiles + p, t)] = 1;
                }
            }
        }

        private void raise(byte[] levels, int e) {
            for (int i = firstDriven[e]; i < firstDriven[e + 1]; i++) {
                levels[driven[i]] = 1;
            }
        }

        /** True if a LUT has changed. */
        private boolean sweep() {
            System.arraycopy(base, 0, groupLevel, 0, grid.wires);
            for (int e = 0; e < grid.places; e++) {
                if (lut[e] == 1 && !isUsed(e)) {
                    raise(groupLevel, e);
                }
            }
            boolean changed = false;
            for (int e = 0; e < grid.places; e++) {
                next[e] = (byte) (table[e] == 0 ? 0 : table[e] >>> pinsOf(e) & 1);
                changed |= next[e] != lut[e];
            }
            System.arraycopy(next, 0, lut, 0, grid.places);
            return changed;
        }

        private int pinsOf(int e) {
            int n = 0;
            for (int p = 0; p < PINS; p++) {
                int g = pinGroup[e * PINS + p];
                if (g != NONE) {
                    n |= groupLevel[g] << p;
                }
            }
            return n;
        }

        int run(int n) {
            int done = 0;
            boolean still = false;
            while (done < n && !still && settle()) {
                still = !takeLuts();
                done++;
            }
            if (still) {
                done = n;
            }
            ticks += done;
            return done;
        }

        /** One TICK: false if no latch has changed, as none will at further ones then. */
        private boolean takeLuts() {
            boolean changed = false;
            for (int e = 0; e < grid.places; e++) {
                if (isUsed(e) && latch[e] != lut[e]) {
                    latch[e] = lut[e];
                    changed = true;
                }
            }
            swept = swept && !changed;
            return changed;
        }

        boolean canAsk(int what, int i) {
            switch (what) {
                case 0: return i >= 0 && i < grid.wires;
                case 1: return i >= 0 && i < grid.pads && numberAt(grid.padBit(i), 2) == PAD_OUT;
                case 2:
                case 3: return i >= 0 && i < grid.places;
                default: return false;
            }
        }

        int ask(int what, int i) {
            if (what == 0) {
                return groupLevel[group[i]];
            }
            if (what == 2) {
                return outOf(i);
            }
            int number = numberAt(grid.padBit(i) + 2, PAD_BITS - 2);
            boolean there = number >= 1 && number <= grid.tracks;
            return there ? groupLevel[groupAt(grid.tiles + i, number - 1)] : 0;
        }
    }
}
