import java.util.ArrayDeque;
import java.util.ArrayList;
import java.util.Collections;
import java.util.HashMap;
import java.util.HashSet;
import java.util.LinkedHashMap;
import java.util.List;
import java.util.Map;
import java.util.Set;
import java.util.TreeMap;
import java.util.TreeSet;

/**
 * The document read a second time, in the plainest and slowest way, with nothing taken over from
 * GateField: what both answer is compared by SecondReadingTest.
 */
final class SecondReading {
    static final int NONE = -1;

    final int columns, rows, elements, tracks;
    final List<Wire> wires = new ArrayList<>();
    final List<Corner> corners = new ArrayList<>();
    final List<Pad> pads = new ArrayList<>();

    private final byte[] ready = new byte[20];
    private String tape = "";
    private int faultPlace = NONE;
    private Compiled now;

    final List<Integer> bits = new ArrayList<>();
    private final boolean[] padLevels;
    private final boolean[] latches;
    private int ticks;

    record Wire(boolean flat, int x, int y, int t, int number) {
        /** Corners as x * 100 + y: the lower or left one first. */
        int near() { return x * 100 + y; }
        int far() { return flat ? (x + 1) * 100 + y : x * 100 + y + 1; }
        boolean meets(Wire o) {
            return o != this && o.t == t && (near() == o.near() || near() == o.far()
                    || far() == o.near() || far() == o.far());
        }
    }

    record Corner(int x, int y) { }

    record Pad(int px, int py, boolean flat, int wx, int wy) { }

    record Word(int place, String word) { }

    record Fault(int place, int number) { }

    SecondReading(int c, int r, int e, int t) {
        columns = Math.min(Math.max(c, 1), 6);
        rows = Math.min(Math.max(r, 1), 6);
        elements = Math.min(Math.max(e, 1), 4);
        tracks = Math.min(Math.max(t, 1), 10);
        for (int y = 0; y <= rows; y++)
            for (int x = 0; x < columns; x++)
                for (int k = 0; k < tracks; k++) wires.add(new Wire(true, x, y, k, wires.size()));
        for (int y = 0; y < rows; y++)
            for (int x = 0; x <= columns; x++)
                for (int k = 0; k < tracks; k++) wires.add(new Wire(false, x, y, k, wires.size()));
        for (int y = 0; y <= rows; y++)
            for (int x = 0; x <= columns; x++) corners.add(new Corner(x, y));
        for (int x = 0; x < columns; x++) addPads(new Pad(x + 1, 0, true, x, 0));
        for (int x = 0; x < columns; x++) addPads(new Pad(x + 1, rows + 1, true, x, rows));
        for (int y = 0; y < rows; y++) addPads(new Pad(0, y + 1, false, 0, y));
        for (int y = 0; y < rows; y++) addPads(new Pad(columns + 1, y + 1, false, columns, y));
        padLevels = new boolean[pads.size()];
        latches = new boolean[columns * rows * elements];
        bits.addAll(emptyBits());
    }

    private void addPads(Pad p) {
        pads.add(p);
        pads.add(new Pad(p.px, p.py, p.flat, p.wx, p.wy));
    }

    Wire wire(boolean flat, int x, int y, int t) {
        for (Wire w : wires) if (w.flat == flat && w.x == x && w.y == y && w.t == t) return w;
        return null;
    }

    // ---- the tape

    void feed(int... five) {
        for (int i = 0; i < 20; i++) ready[i] = (byte) (five[i / 4] >> 8 * (3 - i % 4));
    }

    int end(int n) {
        if (n < 0 || n > 20 || tape.length() + n > 4000) return NONE;
        StringBuilder more = new StringBuilder();
        for (int i = 0; i < n; i++) {
            int b = ready[i] & 255;
            if (!(b >= 32 && b <= 126 || b == 9 || b == 10)) return NONE;
            more.append((char) b);
        }
        tape += more;
        java.util.Arrays.fill(ready, (byte) 0);
        return tape.length();
    }

    // ---- the text

    static final class Names {
        int place;
        List<String> ins = new ArrayList<>();
        String made;
        List<String> covers = new ArrayList<>();
        String sign;
        int number = NONE;

        boolean at(boolean[] values) {
            if (sign == null) return false;
            for (String c : covers) {
                boolean all = true;
                for (int i = 0; i < c.length(); i++) {
                    char s = c.charAt(i);
                    if (s != '-' && (s == '1') != values[i]) all = false;
                }
                if (all) return sign.equals("1");
            }
            return !sign.equals("1");
        }
    }

    static final class Latch {
        String d, q;
        boolean initial;
    }

    final class Compiled {
        List<String> inputs = new ArrayList<>();
        List<String> outputs = new ArrayList<>();
        List<Latch> latchList = new ArrayList<>();
        List<Names> names = new ArrayList<>();
        Map<String, Integer> firstUse = new LinkedHashMap<>();
        Set<String> made = new HashSet<>();
        Map<String, Integer> source = new HashMap<>();
        List<int[]> luts = new ArrayList<>();
        List<Integer> lutTables = new ArrayList<>();
        List<int[]> elementList = new ArrayList<>();
        TreeMap<Integer, List<int[]>> sinks = new TreeMap<>();
        List<Integer> nets = new ArrayList<>();
        int[] cluster, placeIn;
        List<List<Integer>> clusters = new ArrayList<>();
        Map<Integer, Integer> onTile = new HashMap<>();
        Map<Integer, Integer> atPad = new HashMap<>();
        Routed routed;
        Map<String, Boolean> level = new HashMap<>();
        int clocks;
    }

    static final class Routed {
        int rounds;
        List<Set<Integer>> has = new ArrayList<>();
        List<Map<Integer, Integer>> joined = new ArrayList<>();
        List<Set<Integer>> driven = new ArrayList<>();
        List<List<Integer>> ends = new ArrayList<>();
    }

    int compile() {
        String text = tape;
        tape = "";
        now = null;
        clocksWithout = 0;
        faultPlace = NONE;
        Compiled c = new Compiled();
        Fault f = read(text, c);
        if (f == null) f = later(c);
        if (f == null) {
            map(c);
            pack(c);
            if (c.elementList.size() > columns * rows * elements) f = new Fault(NONE, 6);
        }
        if (f != null) {
            faultPlace = f.place;
            return f.number;
        }
        findNets(c);
        makeClusters(c);
        for (int k = 0; k < c.clusters.size(); k++) c.onTile.put(k, k);
        int p = 0;
        for (int i = 0; i < c.inputs.size(); i++) c.atPad.put(p++, i);
        for (int o = 0; o < c.outputs.size(); o++) c.atPad.put(p++, 200 + o);
        for (String i : c.inputs) c.level.put(i, false);
        for (Latch l : c.latchList) c.level.put(l.q, l.initial);
        now = c;
        return 0;
    }

    private int clocksWithout;

    private Fault read(String text, Compiled c) {
        int begin = 0;
        Names[] open = {null};
        while (begin <= text.length()) {
            int stop = text.indexOf('\n', begin);
            if (stop < 0) stop = text.length();
            List<Word> words = words(text, begin, stop);
            if (!words.isEmpty()) {
                TreeSet<Fault> faults = new TreeSet<>((a, b) -> a.place != b.place
                        ? Integer.compare(a.place, b.place) : Integer.compare(a.number, b.number));
                boolean last = line(words, stop, c, open, faults);
                if (!faults.isEmpty()) return faults.first();
                if (last) return null;
            }
            begin = stop + 1;
        }
        return null;
    }

    private static List<Word> words(String text, int begin, int stop) {
        int comment = text.indexOf('#', begin);
        int limit = comment >= 0 && comment < stop ? comment : stop;
        List<Word> list = new ArrayList<>();
        int from = NONE;
        for (int i = begin; i <= limit; i++) {
            boolean in = i < limit && text.charAt(i) != ' ' && text.charAt(i) != '\t';
            if (in && from == NONE) from = i;
            if (!in && from != NONE) {
                list.add(new Word(from, text.substring(from, i)));
                from = NONE;
            }
        }
        return list;
    }

    private void name(Word w, Compiled c, Set<Fault> faults) {
        if (w.word.startsWith(".")) faults.add(new Fault(w.place, 1));
        if (w.word.length() > 12) faults.add(new Fault(w.place, 2));
        if (!c.firstUse.containsKey(w.word)) {
            c.firstUse.put(w.word, w.place);
            if (c.firstUse.size() > 150) faults.add(new Fault(w.place, 2));
        }
    }

    private void makes(Word w, Compiled c, Set<Fault> faults) {
        if (!c.made.add(w.word)) faults.add(new Fault(w.place, 3));
    }

    private boolean line(List<Word> words, int stop, Compiled c, Names[] open, Set<Fault> faults) {
        Word head = words.get(0);
        List<Word> rest = words.subList(1, words.size());
        if (!head.word.startsWith(".")) {
            cover(words, stop, open[0], faults);
            return false;
        }
        open[0] = null;
        switch (head.word) {
            case ".inputs":
            case ".outputs":
                if (rest.isEmpty()) faults.add(new Fault(stop, 1));
                for (Word w : rest) {
                    name(w, c, faults);
                    if (head.word.equals(".inputs")) {
                        makes(w, c, faults);
                        c.inputs.add(w.word);
                    } else {
                        c.outputs.add(w.word);
                    }
                    if (c.inputs.size() + c.outputs.size() > pads.size()) faults.add(new Fault(w.place, 2));
                }
                return false;
            case ".latch":
                if (rest.size() < 2) faults.add(new Fault(stop, 1));
                for (int i = 0; i < rest.size() && i < 2; i++) name(rest.get(i), c, faults);
                if (rest.size() > 1) makes(rest.get(1), c, faults);
                if (rest.size() > 2 && !rest.get(2).word.matches("[01]")) faults.add(new Fault(rest.get(2).place, 1));
                if (rest.size() > 3) faults.add(new Fault(rest.get(3).place, 1));
                if (rest.size() >= 2) {
                    Latch l = new Latch();
                    l.d = rest.get(0).word;
                    l.q = rest.get(1).word;
                    l.initial = rest.size() > 2 && rest.get(2).word.equals("1");
                    c.latchList.add(l);
                }
                return false;
            case ".names":
                Names n = new Names();
                n.place = head.place;
                if (rest.isEmpty()) faults.add(new Fault(stop, 1));
                for (int i = 0; i < rest.size() && i < 9; i++) name(rest.get(i), c, faults);
                if (rest.size() > 9) faults.add(new Fault(rest.get(8).place, 2));
                if (!rest.isEmpty() && rest.size() <= 9) {
                    Word last = rest.get(rest.size() - 1);
                    makes(last, c, faults);
                    for (Word w : rest) n.ins.add(w.word);
                    n.ins.remove(n.ins.size() - 1);
                    n.made = last.word;
                }
                c.names.add(n);
                open[0] = n;
                return false;
            case ".end":
                if (!rest.isEmpty()) faults.add(new Fault(rest.get(0).place, 1));
                return true;
            default:
                faults.add(new Fault(head.place, 1));
                return false;
        }
    }

    private void cover(List<Word> words, int stop, Names open, Set<Fault> faults) {
        if (open == null) {
            faults.add(new Fault(words.get(0).place, 1));
            return;
        }
        int wanted = open.ins.isEmpty() ? 1 : 2;
        if (wanted == 2 && !words.get(0).word.matches("[01-]{" + open.ins.size() + "}"))
            faults.add(new Fault(words.get(0).place, 1));
        if (words.size() < wanted) {
            faults.add(new Fault(stop, 1));
            return;
        }
        Word value = words.get(wanted - 1);
        if (!value.word.matches("[01]")) faults.add(new Fault(value.place, 1));
        else if (open.sign != null && !open.sign.equals(value.word)) faults.add(new Fault(value.place, 3));
        if (words.size() > wanted) faults.add(new Fault(words.get(wanted).place, 1));
        open.sign = value.word;
        open.covers.add(wanted == 2 ? words.get(0).word : "");
    }

    private Fault later(Compiled c) {
        int least = Integer.MAX_VALUE;
        for (String n : c.firstUse.keySet())
            if (!c.made.contains(n)) least = Math.min(least, c.firstUse.get(n));
        if (least < Integer.MAX_VALUE) return new Fault(least, 4);
        Set<String> known = new HashSet<>(c.inputs);
        for (Latch l : c.latchList) known.add(l.q);
        for (int n = 0; n < c.names.size(); n++) {
            boolean found = false;
            for (Names g : c.names) {
                if (g.number == NONE && known.containsAll(g.ins)) {
                    g.number = n;
                    known.add(g.made);
                    found = true;
                    break;
                }
            }
            if (!found) break;
        }
        for (Names g : c.names) if (g.number == NONE) return new Fault(g.place, 5);
        return null;
    }

    // ---- mapping

    private void map(Compiled c) {
        for (int i = 0; i < c.inputs.size(); i++) c.source.put(c.inputs.get(i), i);
        for (int j = 0; j < c.latchList.size(); j++) c.source.put(c.latchList.get(j).q, 200 + j);
        for (int n = 0; n < c.names.size(); n++) {
            for (Names g : c.names) {
                if (g.number != n) continue;
                List<Integer> ins = new ArrayList<>();
                for (String s : g.ins) ins.add(c.source.get(s));
                boolean[] f = new boolean[1 << ins.size()];
                for (int v = 0; v < f.length; v++) {
                    boolean[] values = new boolean[ins.size()];
                    for (int i = 0; i < values.length; i++) values[i] = (v >> i & 1) == 1;
                    f[v] = g.at(values);
                }
                c.source.put(g.made, mapFunction(c, f, ins));
            }
        }
    }

    private static boolean[] with(boolean[] f, int i, boolean v) {
        boolean[] r = new boolean[f.length / 2];
        int k = 0;
        for (int n = 0; n < f.length; n++) if ((n >> i & 1) == (v ? 1 : 0)) r[k++] = f[n];
        return r;
    }

    private int mapFunction(Compiled c, boolean[] f, List<Integer> given) {
        List<Integer> ins = new ArrayList<>(given);
        for (int i = 0; i < ins.size(); ) {
            if (java.util.Arrays.equals(with(f, i, false), with(f, i, true))) {
                f = with(f, i, false);
                ins.remove(i);
            } else {
                i++;
            }
        }
        if (ins.size() <= 4) {
            int table = 0;
            for (int n = 0; n < 16; n++) if (f[n % f.length]) table += 1 << n;
            return addLut(c, ins, table);
        }
        int x = ins.size() - 1;
        List<Integer> others = ins.subList(0, x);
        int low = mapFunction(c, with(f, x, false), others);
        int high = mapFunction(c, with(f, x, true), others);
        int table = 0;
        for (int n = 0; n < 16; n++) {
            boolean first = n % 2 == 1, second = n / 2 % 2 == 1, choice = n / 4 % 2 == 1;
            if (choice ? second : first) table += 1 << n;
        }
        return addLut(c, List.of(low, high, ins.get(x)), table);
    }

    private static int addLut(Compiled c, List<Integer> ins, int table) {
        int[] pins = {NONE, NONE, NONE, NONE};
        for (int i = 0; i < ins.size(); i++) pins[i] = ins.get(i);
        c.luts.add(pins);
        c.lutTables.add(table);
        return 400 + c.luts.size() - 1;
    }

    // ---- packing; an element is {lut or NONE, latch or NONE}

    private void pack(Compiled c) {
        for (int l = 0; l < c.luts.size(); l++) c.elementList.add(new int[] {l, NONE});
        for (int j = 0; j < c.latchList.size(); j++) {
            int d = c.source.get(c.latchList.get(j).d);
            int users = 0;
            for (int[] pins : c.luts) for (int p : pins) if (p == d) users++;
            for (Latch l : c.latchList) if (c.source.get(l.d) == d) users++;
            for (String o : c.outputs) if (c.source.get(o) == d) users++;
            if (d >= 400 && users == 1) c.elementList.get(d - 400)[1] = j;
            else c.elementList.add(new int[] {NONE, j});
        }
    }

    private int pinOf(Compiled c, int e, int p) {
        int[] el = c.elementList.get(e);
        if (el[0] != NONE) return c.luts.get(el[0])[p];
        return p == 0 ? c.source.get(c.latchList.get(el[1]).d) : NONE;
    }

    private int makesSource(Compiled c, int e) {
        int[] el = c.elementList.get(e);
        return el[1] != NONE ? 200 + el[1] : 400 + el[0];
    }

    /** A sink is {element, pin} or {NONE, output}. */
    private void findNets(Compiled c) {
        for (int e = 0; e < c.elementList.size(); e++)
            for (int p = 0; p < 4; p++)
                if (pinOf(c, e, p) != NONE)
                    c.sinks.computeIfAbsent(pinOf(c, e, p), k -> new ArrayList<>()).add(new int[] {e, p});
        for (int o = 0; o < c.outputs.size(); o++)
            c.sinks.computeIfAbsent(c.source.get(c.outputs.get(o)), k -> new ArrayList<>())
                    .add(new int[] {NONE, o});
        c.nets.addAll(c.sinks.keySet());
    }

    private Set<Integer> touches(Compiled c, int e) {
        Set<Integer> set = new HashSet<>();
        if (c.sinks.containsKey(makesSource(c, e))) set.add(makesSource(c, e));
        for (int p = 0; p < 4; p++) if (pinOf(c, e, p) != NONE) set.add(pinOf(c, e, p));
        return set;
    }

    private void makeClusters(Compiled c) {
        TreeSet<Integer> left = new TreeSet<>();
        for (int e = 0; e < c.elementList.size(); e++) left.add(e);
        c.cluster = new int[left.size()];
        c.placeIn = new int[left.size()];
        while (!left.isEmpty()) {
            List<Integer> list = new ArrayList<>();
            Set<Integer> nets = new HashSet<>();
            while (list.size() < elements && !left.isEmpty()) {
                int best = left.first(), most = NONE;
                for (int e : left) {
                    if (list.isEmpty()) break;
                    Set<Integer> both = touches(c, e);
                    both.retainAll(nets);
                    if (both.size() > most) {
                        most = both.size();
                        best = e;
                    }
                }
                c.cluster[best] = c.clusters.size();
                c.placeIn[best] = list.size();
                list.add(best);
                left.remove(best);
                nets.addAll(touches(c, best));
            }
            c.clusters.add(list);
        }
    }

    // ---- placing

    private int key(Map<Integer, Integer> map, int value) {
        for (Map.Entry<Integer, Integer> e : map.entrySet()) if (e.getValue() == value) return e.getKey();
        throw new IllegalStateException();
    }

    /** Where something stands: {0, tile} or {1, pad}. */
    private int[] spotOfSource(Compiled c, int source) {
        if (source < 200) return new int[] {1, key(c.atPad, source)};
        for (int e = 0; e < c.elementList.size(); e++)
            if (makesSource(c, e) == source) return new int[] {0, key(c.onTile, c.cluster[e])};
        throw new IllegalStateException();
    }

    private int[] spotOfSink(Compiled c, int[] sink) {
        if (sink[0] == NONE) return new int[] {1, key(c.atPad, 200 + sink[1])};
        return new int[] {0, key(c.onTile, c.cluster[sink[0]])};
    }

    private int[] point(int[] spot) {
        if (spot[0] == 0) return new int[] {spot[1] % columns + 1, spot[1] / columns + 1};
        return new int[] {pads.get(spot[1]).px, pads.get(spot[1]).py};
    }

    private int length(Compiled c) {
        int sum = 0;
        for (int s : c.nets) {
            List<int[]> points = new ArrayList<>();
            points.add(point(spotOfSource(c, s)));
            for (int[] sink : c.sinks.get(s)) points.add(point(spotOfSink(c, sink)));
            int minX = 99, maxX = -1, minY = 99, maxY = -1;
            for (int[] p : points) {
                minX = Math.min(minX, p[0]);
                maxX = Math.max(maxX, p[0]);
                minY = Math.min(minY, p[1]);
                maxY = Math.max(maxY, p[1]);
            }
            sum += maxX - minX + maxY - minY;
        }
        return sum;
    }

    private void swapTwo(Map<Integer, Integer> map, int a, int b) {
        Integer x = map.remove(a), y = map.remove(b);
        if (a == b) {
            if (x != null) map.put(a, x);
            return;
        }
        if (x != null) map.put(b, x);
        if (y != null) map.put(a, y);
    }

    private void trySwap(boolean ofPads, int a, int b, int slack) {
        Map<Integer, Integer> map = ofPads ? now.atPad : now.onTile;
        int before = length(now);
        swapTwo(map, a, b);
        if (length(now) - before > slack) swapTwo(map, a, b);
    }

    int swap(boolean ofPads, int a, int b, int slack) {
        int count = ofPads ? pads.size() : columns * rows;
        if (now == null || a < 0 || b < 0 || a >= count || b >= count) return NONE;
        now.routed = null;
        trySwap(ofPads, a, b, slack);
        return length(now);
    }

    int shake(int c, int n) {
        if (now == null || n < 0 || n > 1000) return NONE;
        for (int i = 0; i < n; i++) {
            now.routed = null;
            boolean ofPads = (c & 1) == 1;
            int count = ofPads ? pads.size() : columns * rows;
            trySwap(ofPads, (c >>> 1 & 255) % count, (c >>> 9 & 255) % count, c >>> 17 & 7);
            c = c * 1103515245 + 12345;
        }
        return length(now);
    }

    // ---- routing

    /** The wire at a side and a track of a spot, or null. */
    private Wire touchedBy(int[] spot, int side, int t) {
        if (spot[0] == 1) {
            Pad p = pads.get(spot[1]);
            return side == 0 ? wire(p.flat, p.wx, p.wy, t) : null;
        }
        int x = spot[1] % columns, y = spot[1] / columns;
        switch (side) {
            case 0: return wire(true, x, y, t);
            case 1: return wire(true, x, y + 1, t);
            case 2: return wire(false, x, y, t);
            default: return wire(false, x + 1, y, t);
        }
    }

    private Set<Integer> touchedWires(int[] spot) {
        Set<Integer> set = new TreeSet<>();
        for (int side = 0; side < 4; side++)
            for (int t = 0; t < tracks; t++)
                if (touchedBy(spot, side, t) != null) set.add(touchedBy(spot, side, t).number);
        return set;
    }

    private List<List<Integer>> neighbourLists;

    private List<List<Integer>> neighbours() {
        if (neighbourLists == null) {
            neighbourLists = new ArrayList<>();
            for (Wire w : wires) {
                List<Integer> list = new ArrayList<>();
                for (Wire o : wires) if (w.meets(o)) list.add(o.number);
                neighbourLists.add(list);
            }
        }
        return neighbourLists;
    }

    int route(int most) {
        if (now == null || most < 1 || most > 20) return NONE;
        now.routed = null;
        Routed r = empty(now);
        long[] past = new long[wires.size()];
        for (int round = 1; round <= most; round++) {
            for (int n = 0; n < now.nets.size(); n++) routeOne(r, n, round, past, NONE);
            boolean done = true;
            for (int w = 0; w < wires.size(); w++) {
                int had = having(r, w, NONE);
                if (had >= 2) {
                    done = false;
                    past[w] += had - 1;
                }
            }
            if (done) return stands(r, round);
        }
        if (now.nets.size() > tracks) return 0;
        r = empty(now);
        for (int n = 0; n < now.nets.size(); n++) routeOne(r, n, 1, past, n);
        return stands(r, most + 1);
    }

    private int stands(Routed r, int rounds) {
        r.rounds = rounds;
        now.routed = r;
        return rounds;
    }

    private static Routed empty(Compiled c) {
        Routed r = new Routed();
        for (int n = 0; n < c.nets.size(); n++) {
            r.has.add(new HashSet<>());
            r.joined.add(new HashMap<>());
            r.driven.add(new HashSet<>());
            r.ends.add(new ArrayList<>());
        }
        return r;
    }

    private static int having(Routed r, int wire, int but) {
        int had = 0;
        for (int n = 0; n < r.has.size(); n++) if (n != but && r.has.get(n).contains(wire)) had++;
        return had;
    }

    private void routeOne(Routed r, int n, int round, long[] past, int track) {
        Set<Integer> has = r.has.get(n);
        has.clear();
        r.joined.get(n).clear();
        r.driven.get(n).clear();
        r.ends.get(n).clear();
        Set<Integer> start = touchedWires(spotOfSource(now, now.nets.get(n)));
        long[] cost = new long[wires.size()];
        for (int w = 0; w < cost.length; w++)
            cost[w] = track != NONE ? 1 : (1 + past[w]) * (1 + (round - 1) * having(r, w, n));
        for (int[] sink : now.sinks.get(now.nets.get(n))) {
            long[] far = distances(has, start, cost, track);
            int end = NONE;
            for (int w : touchedWires(spotOfSink(now, sink)))
                if (far[w] < FAR && (end == NONE || far[w] < far[end])) end = w;
            r.ends.get(n).add(end);
            int w = end;
            while (has.add(w)) {
                if (start.contains(w) && far[w] == cost[w]) {
                    r.driven.get(n).add(w);
                    break;
                }
                int next = NONE;
                for (int o : neighbours().get(w))
                    if (far[o] == far[w] - cost[w] && (next == NONE || o < next)) next = o;
                r.joined.get(n).put(w, next);
                w = next;
            }
        }
    }

    private static final long FAR = Long.MAX_VALUE / 4;

    /** Made less as long as any can be: no order, no queue. */
    private long[] distances(Set<Integer> has, Set<Integer> start, long[] cost, int track) {
        long[] far = new long[wires.size()];
        java.util.Arrays.fill(far, FAR);
        boolean changed = true;
        while (changed) {
            changed = false;
            for (Wire wire : wires) {
                int w = wire.number;
                if (track != NONE && wire.t != track) continue;
                long best = start.contains(w) ? cost[w] : FAR;
                for (int o : neighbours().get(w)) best = Math.min(best, far[o] + cost[w]);
                if (has.contains(w)) best = 0;
                if (best < far[w]) {
                    far[w] = best;
                    changed = true;
                }
            }
        }
        return far;
    }

    // ---- bits

    private static void number(List<Integer> list, int value, int width) {
        for (int b = 0; b < width; b++) list.add(value >> b & 1);
    }

    /** At a corner: left, right, lower, upper wire, or null. */
    private Wire[] around(Corner c, int t) {
        return new Wire[] {wire(true, c.x - 1, c.y, t), wire(true, c.x, c.y, t),
                wire(false, c.x, c.y - 1, t), wire(false, c.x, c.y, t)};
    }

    private static final int[][] PAIRS = {{0, 1}, {0, 2}, {0, 3}, {1, 2}, {1, 3}, {2, 3}};

    private List<Integer> emptyBits() {
        return write(new Compiled(), new Routed());
    }

    private int endNumber(Compiled c, Routed r, int e, int p) {
        for (int n = 0; n < c.nets.size(); n++) {
            List<int[]> sinks = c.sinks.get(c.nets.get(n));
            for (int s = 0; s < sinks.size(); s++) {
                if (sinks.get(s)[0] != e || sinks.get(s)[1] != p) continue;
                int[] spot = spotOfSink(c, sinks.get(s));
                for (int side = 0; side < 4; side++)
                    for (int t = 0; t < tracks; t++) {
                        Wire w = touchedBy(spot, side, t);
                        if (w != null && w.number == r.ends.get(n).get(s)) return 1 + side * tracks + t;
                    }
            }
        }
        return 0;
    }

    private void drives(Compiled c, Routed r, List<Integer> list, int[] spot, int source, int sides) {
        int n = c.nets.indexOf(source);
        for (int side = 0; side < sides; side++)
            for (int t = 0; t < tracks; t++) {
                Wire w = touchedBy(spot, side, t);
                list.add(n >= 0 && r.driven.get(n).contains(w.number) ? 1 : 0);
            }
    }

    private List<Integer> write(Compiled c, Routed r) {
        List<Integer> list = new ArrayList<>();
        for (int t = 0; t < columns * rows; t++) {
            Integer cl = c.onTile.get(t);
            for (int k = 0; k < elements; k++) {
                if (cl == null || k >= c.clusters.get(cl).size()) {
                    number(list, 0, 42 + 4 * tracks);
                    continue;
                }
                int e = c.clusters.get(cl).get(k);
                int[] el = c.elementList.get(e);
                number(list, el[0] == NONE ? 43690 : c.lutTables.get(el[0]), 16);
                list.add(el[1] == NONE ? 0 : 1);
                list.add(el[1] != NONE && c.latchList.get(el[1]).initial ? 1 : 0);
                for (int p = 0; p < 4; p++) number(list, endNumber(c, r, e, p), 6);
                drives(c, r, list, new int[] {0, t}, makesSource(c, e), 4);
            }
        }
        for (int p = 0; p < pads.size(); p++) {
            Integer what = c.atPad.get(p);
            if (what == null) {
                number(list, 0, 6 + tracks);
            } else if (what >= 200) {
                number(list, 2, 2);
                number(list, endNumber(c, r, NONE, what - 200), 4);
                number(list, 0, tracks);
            } else {
                number(list, 1, 2);
                number(list, 0, 4);
                drives(c, r, list, new int[] {1, p}, what, 1);
            }
        }
        for (Corner corner : corners)
            for (int t = 0; t < tracks; t++) {
                Wire[] four = around(corner, t);
                for (int[] pair : PAIRS) list.add(isJoined(r, four[pair[0]], four[pair[1]]) ? 1 : 0);
            }
        return list;
    }

    private static boolean isJoined(Routed r, Wire a, Wire b) {
        if (a == null || b == null) return false;
        for (Map<Integer, Integer> m : r.joined)
            if (Integer.valueOf(b.number).equals(m.get(a.number))
                    || Integer.valueOf(a.number).equals(m.get(b.number))) return true;
        return false;
    }

    boolean burn() {
        if (now == null || now.routed == null) return false;
        List<Integer> made = write(now, now.routed);
        Collections.copy(bits, made);
        start();
        return true;
    }

    int bit(int i) {
        return i < 0 || i >= bits.size() ? NONE : bits.get(i);
    }

    int flip(int i) {
        if (i < 0 || i >= bits.size()) return NONE;
        bits.set(i, 1 - bits.get(i));
        return bits.get(i);
    }

    // ---- the field, read from its bits from the first one on each time

    final class State {
        int at;
        int[] table = new int[latches.length];
        boolean[] used = new boolean[latches.length];
        boolean[] initial = new boolean[latches.length];
        int[][] pins = new int[latches.length][4];
        List<Set<Integer>> outs = new ArrayList<>();
        int[] kind = new int[pads.size()];
        int[] padWire = new int[pads.size()];
        List<Set<Integer>> padOuts = new ArrayList<>();
        Map<Integer, Set<Integer>> joined = new HashMap<>();
        boolean[] lut = new boolean[latches.length];
        int[] part = new int[wires.size()];

        int next(int width) {
            int v = 0;
            for (int b = 0; b < width; b++) v += bits.get(at++) << b;
            return v;
        }

        State() {
            for (int e = 0; e < latches.length; e++) readElement(e);
            for (int p = 0; p < pads.size(); p++) {
                kind[p] = next(2);
                int v = next(4);
                padWire[p] = v >= 1 && v <= tracks ? touchedBy(new int[] {1, p}, 0, v - 1).number : NONE;
                Set<Integer> out = new HashSet<>();
                for (int t = 0; t < tracks; t++)
                    if (next(1) == 1) out.add(touchedBy(new int[] {1, p}, 0, t).number);
                padOuts.add(out);
            }
            for (Corner c : corners)
                for (int t = 0; t < tracks; t++) {
                    Wire[] four = around(c, t);
                    for (int[] pair : PAIRS) {
                        Wire a = four[pair[0]], b = four[pair[1]];
                        if (next(1) == 0 || a == null || b == null) continue;
                        joined.computeIfAbsent(a.number, k -> new HashSet<>()).add(b.number);
                        joined.computeIfAbsent(b.number, k -> new HashSet<>()).add(a.number);
                    }
                }
            java.util.Arrays.fill(part, NONE);
            for (Wire w : wires) if (part[w.number] == NONE) spread(w.number);
        }

        private void readElement(int e) {
            int[] spot = {0, e / elements};
            table[e] = next(16);
            used[e] = next(1) == 1;
            initial[e] = next(1) == 1;
            for (int p = 0; p < 4; p++) {
                int v = next(6);
                pins[e][p] = v >= 1 && v <= 4 * tracks
                        ? touchedBy(spot, (v - 1) / tracks, (v - 1) % tracks).number : NONE;
            }
            Set<Integer> out = new HashSet<>();
            for (int side = 0; side < 4; side++)
                for (int t = 0; t < tracks; t++)
                    if (next(1) == 1) out.add(touchedBy(spot, side, t).number);
            outs.add(out);
        }

        private void spread(int from) {
            ArrayDeque<Integer> queue = new ArrayDeque<>(List.of(from));
            part[from] = from;
            while (!queue.isEmpty())
                for (int o : joined.getOrDefault(queue.remove(), Set.of()))
                    if (part[o] == NONE) {
                        part[o] = from;
                        queue.add(o);
                    }
        }

        boolean out(int e) {
            return used[e] ? latches[e] : lut[e];
        }

        Set<Integer> high() {
            Set<Integer> set = new HashSet<>();
            for (int p = 0; p < pads.size(); p++)
                if (kind[p] == 1 && padLevels[p]) for (int w : padOuts.get(p)) set.add(part[w]);
            for (int e = 0; e < latches.length; e++)
                if (out(e)) for (int w : outs.get(e)) set.add(part[w]);
            return set;
        }

        boolean settles() {
            lut = new boolean[latches.length];
            for (int s = 0; s < latches.length + 1; s++) {
                Set<Integer> high = high();
                boolean[] next = new boolean[lut.length];
                for (int e = 0; e < next.length; e++) {
                    int n = 0;
                    for (int p = 0; p < 4; p++)
                        if (pins[e][p] != NONE && high.contains(part[pins[e][p]])) n += 1 << p;
                    next[e] = (table[e] >> n & 1) == 1;
                }
                boolean same = java.util.Arrays.equals(next, lut);
                lut = next;
                if (same) return true;
            }
            return false;
        }
    }

    void start() {
        State s = new State();
        System.arraycopy(s.initial, 0, latches, 0, latches.length);
        ticks = 0;
    }

    boolean level(int p, boolean v) {
        if (p < 0 || p >= pads.size()) return false;
        padLevels[p] = v;
        return true;
    }

    int tick(int n) {
        if (n < 0 || n > 1000) return NONE;
        State s = new State();
        for (int i = 0; i < n; i++) {
            if (!s.settles()) return i;
            for (int e = 0; e < latches.length; e++) if (s.used[e]) latches[e] = s.lut[e];
            ticks++;
        }
        return n;
    }

    int probe(int what, int i) {
        State s = new State();
        if (what < 0 || what > 3 || i < 0) return NONE;
        if (what == 0 && i >= wires.size()) return NONE;
        if (what == 1 && (i >= pads.size() || s.kind[i] != 2)) return NONE;
        if (what >= 2 && i >= latches.length) return NONE;
        if (what == 3) return latches[i] ? 1 : 0;
        if (!s.settles()) return -2;
        if (what == 2) return s.out(i) ? 1 : 0;
        int w = what == 0 ? i : s.padWire[i];
        return w != NONE && s.high().contains(s.part[w]) ? 1 : 0;
    }

    // ---- the meaning, by the text's own functions

    boolean drive(int i, boolean v) {
        if (now == null || i < 0 || i >= now.inputs.size()) return false;
        now.level.put(now.inputs.get(i), v);
        return true;
    }

    private Map<String, Boolean> meaning() {
        Map<String, Boolean> all = new HashMap<>(now.level);
        for (int n = 0; n < now.names.size(); n++)
            for (Names g : now.names) {
                if (g.number != n) continue;
                boolean[] values = new boolean[g.ins.size()];
                for (int i = 0; i < values.length; i++) values[i] = all.get(g.ins.get(i));
                all.put(g.made, g.at(values));
            }
        return all;
    }

    boolean clock(int n) {
        if (now == null || n < 0 || n > 1000) return false;
        for (int i = 0; i < n; i++) {
            Map<String, Boolean> all = meaning();
            for (Latch l : now.latchList) now.level.put(l.q, all.get(l.d));
            now.clocks++;
        }
        return true;
    }

    int value(int source) {
        if (now == null || source < 0) return NONE;
        if (source < now.inputs.size()) return now.level.get(now.inputs.get(source)) ? 1 : 0;
        if (source >= 200 && source < 200 + now.latchList.size())
            return now.level.get(now.latchList.get(source - 200).q) ? 1 : 0;
        if (source < 400 || source >= 400 + now.luts.size()) return NONE;
        int n = 0;
        for (int p = 0; p < 4; p++) {
            int s = now.luts.get(source - 400)[p];
            if (s != NONE && value(s) == 1) n += 1 << p;
        }
        return now.lutTables.get(source - 400) >> n & 1;
    }

    int out(int o) {
        if (now == null || o < 0 || o >= now.outputs.size()) return NONE;
        return meaning().get(now.outputs.get(o)) ? 1 : 0;
    }

    // ---- looking

    int look(int what) {
        switch (what) {
            case 0: return faultPlace;
            case 9: return pads.size();
            case 10: return wires.size();
            case 11: return bits.size();
            case 12: return now == null ? 0 : now.routed == null ? 1 : 2;
            case 13: return now == null || now.routed == null ? 0 : now.routed.rounds;
            case 14: return wiresHad();
            case 15: return now == null ? clocksWithout : now.clocks;
            case 16: return ticks;
            default: break;
        }
        if (now == null) return NONE;
        switch (what) {
            case 1: return now.inputs.size();
            case 2: return now.latchList.size();
            case 3: return now.luts.size();
            case 4: return now.outputs.size();
            case 5: return now.elementList.size();
            case 6: return now.clusters.size();
            case 7: return now.nets.size();
            case 8: return length(now);
            default: return NONE;
        }
    }

    private int wiresHad() {
        int sum = 0;
        if (now != null && now.routed != null) for (Set<Integer> s : now.routed.has) sum += s.size();
        return sum;
    }

    int lut(int l, int what) {
        if (now == null || l < 0 || l >= now.luts.size() || what < 0 || what > 4) return NONE;
        return what == 4 ? now.lutTables.get(l) : now.luts.get(l)[what];
    }

    int element(int e, int what) {
        if (now == null || e < 0 || e >= now.elementList.size() || what < 0 || what > 3) return NONE;
        if (what < 2) return now.elementList.get(e)[what];
        return what == 2 ? now.cluster[e] : now.placeIn[e];
    }

    int net(int n, int what) {
        if (now == null || n < 0 || n >= now.nets.size() || what < 0) return NONE;
        List<int[]> sinks = now.sinks.get(now.nets.get(n));
        if (what == 0) return now.nets.get(n);
        if (what == 1) return sinks.size();
        if (what == 2) return now.routed == null ? 0 : now.routed.has.get(n).size();
        if (what - 3 >= sinks.size() || now.routed == null) return NONE;
        return now.routed.ends.get(n).get(what - 3);
    }

    int tile(int t) {
        return now == null ? NONE : now.onTile.getOrDefault(t, NONE);
    }

    int pad(int p) {
        return now == null ? NONE : now.atPad.getOrDefault(p, NONE);
    }

    int owner(int wire) {
        if (now == null || now.routed == null) return NONE;
        for (int n = 0; n < now.nets.size(); n++) if (now.routed.has.get(n).contains(wire)) return n;
        return NONE;
    }
}
