/** A field with names for its bits and its wires, by the document's own formulas. */
final class Board {
    static final int BELOW = 0;
    static final int ABOVE = 1;
    static final int LEFT = 2;
    static final int RIGHT = 3;
    static final int LEFT_RIGHT = 0;
    static final int LEFT_LOWER = 1;
    static final int LEFT_UPPER = 2;
    static final int RIGHT_LOWER = 3;
    static final int RIGHT_UPPER = 4;
    static final int LOWER_UPPER = 5;

    final GateField f;
    final int columns;
    final int rows;
    final int elements;
    final int tracks;

    Board(int columns, int rows, int elements, int tracks) {
        this(new GateField(columns, rows, elements, tracks), columns, rows, elements, tracks);
    }

    Board(GateField f, int columns, int rows, int elements, int tracks) {
        this.f = f;
        this.columns = columns;
        this.rows = rows;
        this.elements = elements;
        this.tracks = tracks;
    }

    int tiles() {
        return columns * rows;
    }

    int pads() {
        return 4 * (columns + rows);
    }

    int wires() {
        return v(0, rows, 0);
    }

    // ---- wires

    int h(int x, int y, int t) {
        return (y * columns + x) * tracks + t;
    }

    int v(int x, int y, int t) {
        return columns * (rows + 1) * tracks + (y * (columns + 1) + x) * tracks + t;
    }

    int tileWire(int tile, int side, int t) {
        int x = tile % columns;
        int y = tile / columns;
        switch (side) {
            case BELOW: return h(x, y, t);
            case ABOVE: return h(x, y + 1, t);
            case LEFT: return v(x, y, t);
            default: return v(x + 1, y, t);
        }
    }

    int padWire(int p, int t) {
        int k = p / 2;
        if (k < columns) return h(k, 0, t);
        if (k < 2 * columns) return h(k - columns, rows, t);
        if (k < 2 * columns + rows) return v(0, k - 2 * columns, t);
        return v(columns, k - 2 * columns - rows, t);
    }

    // ---- bits; an element is the i-th of the field, by tiles

    int element(int e) {
        return e * (42 + 4 * tracks);
    }

    int used(int e) {
        return element(e) + 16;
    }

    int initial(int e) {
        return element(e) + 17;
    }

    int pin(int e, int p) {
        return element(e) + 18 + 6 * p;
    }

    int drives(int e, int side, int t) {
        return element(e) + 42 + side * tracks + t;
    }

    int pad(int p) {
        return element(tiles() * elements) + p * (6 + tracks);
    }

    int padEnd(int p) {
        return pad(p) + 2;
    }

    int padDrives(int p, int t) {
        return pad(p) + 6 + t;
    }

    int joint(int x, int y, int t, int pair) {
        return pad(pads()) + ((y * (columns + 1) + x) * tracks + t) * 6 + pair;
    }

    int bits() {
        return joint(0, rows + 1, 0, 0);
    }

    // ---- what the bits are

    int get(int first, int width) {
        int number = 0;
        for (int b = 0; b < width; b++) number |= f.bit(first + b) << b;
        return number;
    }

    void set(int first, int width, int number) {
        int turned = get(first, width) ^ number;
        for (int b = 0; b < width; b++) if ((turned >> b & 1) == 1) f.flip(first + b);
    }

    void setTable(int e, int table) {
        set(element(e), 16, table);
    }

    /** A pin at a side and a track of its tile. */
    void setPin(int e, int p, int side, int t) {
        set(pin(e, p), 6, 1 + side * tracks + t);
    }

    /** An input that drives a track, with a level. */
    void setInput(int p, int t, boolean level) {
        set(pad(p), 2, 1);
        set(padDrives(p, t), 1, 1);
        f.level(p, level);
    }

    /** An output at a track. */
    void setOutput(int p, int t) {
        set(pad(p), 2, 2);
        set(padEnd(p), 4, 1 + t);
    }

    /** Element e is always 1, and drives a wire of its tile. */
    void setSource(int e, int side, int t) {
        setTable(e, 65535);
        set(drives(e, side, t), 1, 1);
    }
}
