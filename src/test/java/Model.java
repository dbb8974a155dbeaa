import java.util.ArrayList;
import java.util.HashSet;
import java.util.List;
import java.util.Map;
import java.util.NoSuchElementException;
import java.util.Set;
import java.util.TreeMap;
import java.util.TreeSet;

/**
 * The document in its plainest and slowest form: whole copies, point by point, sets of lists. Random runs
 * hold the program against it, so it goes other ways than the program wherever there is one.
 */
final class Model {
    static final int NONE = -1;
    static final int HIDDEN = -1000000;

    record Edge(int x, int y, int toX, int toY, int region) {
        Edge moved(int dx, int dy) {
            return new Edge(x + dx, y + dy, toX + dx, toY + dy, region);
        }

        Edge told(int r) {
            return new Edge(x, y, toX, toY, r);
        }
    }

    record State(TreeMap<Integer, Edge> edges, List<int[]> log) {
        State copy() {
            return new State(new TreeMap<>(edges), new ArrayList<>(log));
        }
    }

    record Slab(int from, int to, List<Integer> list) {
    }

    private final StringBuilder tape = new StringBuilder();
    private boolean hasMap;
    private State now = new State(new TreeMap<>(), new ArrayList<>());
    private final List<State> undo = new ArrayList<>();
    private State image;
    private Map<Integer, String> names = new TreeMap<>();
    private final List<List<int[]>> scripts = new ArrayList<>();
    private final int[] status = new int[4];

    // ---- texts: a machine that goes sign by sign ----

    private static final int[] BOUND_A = {63, 63, 63, 63, 9};
    private static final int[] BOUND_D = {23};
    private static final int[] BOUND_R = {23, 9};
    private static final int[] BOUND_M = {63, 63};

    private static int[] bounds(char kind) {
        switch (kind) {
            case 'd':
                return BOUND_D;
            case 'r':
                return BOUND_R;
            case 'm':
                return BOUND_M;
            default:
                return BOUND_A;
        }
    }

    /** What a text tells: parts are kind and numbers; a name is kind n, region, letters. */
    static final class Told {
        final List<int[]> parts = new ArrayList<>();
        final Map<Integer, String> names = new TreeMap<>();
        int fault = NONE;
    }

    private enum Want { PART, NUMBER, SIGNED, DIGITS, BEHIND, REGION, LETTER, LETTERS, BEHIND_NAME }

    static Told told(String text, int sort) {
        Told told = new Told();
        Want want = Want.PART;
        int edges = 0;
        int parts = 0;
        char kind = ' ';
        List<Integer> numbers = new ArrayList<>();
        String digits = "";
        boolean minus = false;
        int region = 0;
        StringBuilder name = new StringBuilder();
        for (int i = 0; i <= text.length(); i++) {
            boolean over = i == text.length();
            char c = over ? 0 : text.charAt(i);
            boolean digit = !over && c >= '0' && c <= '9';
            boolean letter = !over && c >= 'a' && c <= 'z';
            if (want == Want.DIGITS) {
                if (digit && digits.length() == 2) {
                    told.fault = i;
                    return told;
                }
                if (digit) {
                    digits += c;
                    continue;
                }
                int value = Integer.parseInt(digits);
                if (value > bounds(kind)[numbers.size()]) {
                    told.fault = i - 1;
                    return told;
                }
                numbers.add(minus ? -value : value);
                want = Want.BEHIND;
            }
            if (want == Want.LETTERS) {
                if (letter && name.length() == 4) {
                    told.fault = i;
                    return told;
                }
                if (letter) {
                    name.append(c);
                    continue;
                }
                told.names.put(region, name.toString());
                want = Want.BEHIND_NAME;
            }
            if (c == ' ' && want != Want.SIGNED) {
                continue;
            }
            boolean good = false;
            switch (want) {
                case PART:
                    good = !over && (sort == 0 ? "en" : "adrm").indexOf(c) >= 0 && !(c == 'e' && edges == 24);
                    kind = c;
                    edges += c == 'e' ? 1 : 0;
                    parts++;
                    numbers = new ArrayList<>();
                    want = c == 'n' ? Want.REGION : Want.NUMBER;
                    break;
                case NUMBER:
                    minus = c == '-' && kind == 'm';
                    good = digit || minus;
                    digits = digit ? "" + c : "";
                    want = minus ? Want.SIGNED : Want.DIGITS;
                    break;
                case SIGNED:
                    good = digit;
                    digits = "" + c;
                    want = Want.DIGITS;
                    break;
                case BEHIND:
                    boolean all = numbers.size() == bounds(kind).length;
                    if (all) {
                        int[] part = new int[6];
                        part[0] = kind;
                        for (int k = 1; k < 6; k++) {
                            part[k] = k <= numbers.size() ? numbers.get(k - 1) : HIDDEN;
                        }
                        if (over || c == ';') {
                            told.parts.add(part);
                        }
                    }
                    good = !over && c == (all ? ';' : ',') && !(all && sort == 1 && parts == 12);
                    if (over && all) {
                        told.fault = sort == 0 && edges == 0 ? i : NONE;
                        return told;
                    }
                    want = all ? Want.PART : Want.NUMBER;
                    break;
                case REGION:
                    region = c - '0';
                    good = digit && !told.names.containsKey(region);
                    want = Want.LETTER;
                    break;
                case LETTER:
                    good = letter;
                    name.setLength(0);
                    name.append(c);
                    want = Want.LETTERS;
                    break;
                default:
                    good = c == ';';
                    if (over) {
                        told.fault = edges == 0 ? i : NONE;
                        return told;
                    }
                    want = Want.PART;
                    break;
            }
            if (!good) {
                told.fault = i;
                return told;
            }
        }
        throw new IllegalStateException("a text has an end");
    }

    int feed(int a, int b, int c, int d, int e) {
        StringBuilder more = new StringBuilder();
        for (int number : new int[] {a, b, c, d, e}) {
            for (int k = 3; k >= 0; k--) {
                int sign = (number >> (8 * k)) & 0xff;
                if (sign > 0) {
                    more.append((char) sign);
                }
            }
        }
        if (tape.length() + more.length() > 480) {
            return NONE;
        }
        tape.append(more);
        return tape.length();
    }

    boolean end(int n) {
        if (n < 0 || n > tape.length()) {
            return false;
        }
        tape.setLength(n);
        return true;
    }

    int fault(int sort) {
        return sort == 0 || sort == 1 ? told(tape.toString(), sort).fault : -2;
    }

    int text(int sort) {
        if (sort != 0 && sort != 1) {
            return NONE;
        }
        Told told = told(tape.toString(), sort);
        if (told.fault != NONE || sort == 1 && scripts.size() == 4) {
            return NONE;
        }
        tape.setLength(0);
        if (sort == 1) {
            scripts.add(told.parts);
            return scripts.size() - 1;
        }
        hasMap = true;
        image = null;
        undo.clear();
        names = told.names;
        now = new State(new TreeMap<>(), new ArrayList<>());
        for (int[] part : told.parts) {
            if (refusal(now, part) == NONE) {
                apply(now, part);
            }
        }
        return now.edges.size();
    }

    // ---- geometry by fractions ----

    /** Whether the insides of two straight ways have a point in common. */
    static boolean insidesMeet(long ax, long ay, long bx, long by, long cx, long cy, long dx, long dy) {
        long ux = bx - ax;
        long uy = by - ay;
        long vx = dx - cx;
        long vy = dy - cy;
        if (ux == 0 && uy == 0 || vx == 0 && vy == 0) {
            return false;
        }
        long det = ux * vy - uy * vx;
        if (det != 0) {
            // a + t u = c + s v
            long t = (cx - ax) * vy - (cy - ay) * vx;
            long s = (cx - ax) * uy - (cy - ay) * ux;
            if (det < 0) {
                det = -det;
                t = -t;
                s = -s;
            }
            return t > 0 && t < det && s > 0 && s < det;
        }
        if ((cx - ax) * uy != (cy - ay) * ux) {
            return false;
        }
        // on one line: places along u
        long c = (cx - ax) * ux + (cy - ay) * uy;
        long d = (dx - ax) * ux + (dy - ay) * uy;
        long length = ux * ux + uy * uy;
        return Math.max(0, Math.min(c, d)) < Math.min(length, Math.max(c, d));
    }

    private static boolean cross(Edge e, int x, int y, int toX, int toY) {
        return insidesMeet(e.x, e.y, e.toX, e.toY, x, y, toX, toY);
    }

    /** The sign of: the height of the edge at x (a part of parts) less y. */
    private static int compareHeight(Edge e, long x, long parts, long y) {
        long wide = e.toX - e.x;
        return Long.compare(e.y * wide * parts + (e.toY - e.y) * (x - e.x * parts), y * wide * parts);
    }

    private static double heightInSlab(Edge e, Slab s) {
        return e.y + (e.toY - e.y) * ((s.from + s.to) / 2.0 - e.x) / (e.toX - e.x);
    }

    static List<Slab> slabs(State state) {
        TreeSet<Integer> cuts = new TreeSet<>();
        for (Edge e : state.edges.values()) {
            cuts.add(e.x);
            cuts.add(e.toX);
        }
        List<Slab> slabs = new ArrayList<>();
        Integer last = null;
        for (int cut : cuts) {
            if (last != null) {
                Slab slab = new Slab(last, cut, new ArrayList<>());
                state.edges.forEach((number, e) -> {
                    if (e.x <= slab.from && e.toX >= slab.to) {
                        slab.list.add(number);
                    }
                });
                slab.list.sort((p, q) -> Double.compare(heightInSlab(state.edges.get(p), slab),
                        heightInSlab(state.edges.get(q), slab)));
                slabs.add(slab);
            }
            last = cut;
        }
        return slabs;
    }

    private static int slabOf(List<Slab> slabs, int x) {
        for (int i = 0; i < slabs.size(); i++) {
            if (slabs.get(i).from <= x && x < slabs.get(i).to) {
                return i;
            }
        }
        return NONE;
    }

    private static int top(State state, List<Slab> slabs, int x, int y) {
        int slab = slabOf(slabs, x);
        int top = NONE;
        if (slab != NONE) {
            for (int edge : slabs.get(slab).list) {
                if (compareHeight(state.edges.get(edge), x, 1, y) <= 0) {
                    top = edge;
                }
            }
        }
        return top;
    }

    private static int[][] regions(State state) {
        List<Slab> slabs = slabs(state);
        int[][] grid = new int[64][64];
        for (int x = 0; x < 64; x++) {
            for (int y = 0; y < 64; y++) {
                int edge = top(state, slabs, x, y);
                grid[x][y] = edge == NONE ? 0 : state.edges.get(edge).region;
            }
        }
        return grid;
    }

    private static int count(int[][] grid, int region) {
        int n = 0;
        for (int[] column : grid) {
            for (int r : column) {
                n += r == region ? 1 : 0;
            }
        }
        return n;
    }

    private static Set<List<Integer>> endsOf(State state) {
        Set<List<Integer>> ends = new HashSet<>();
        for (Slab slab : slabs(state)) {
            for (int k = 0; k < slab.list.size(); k++) {
                ends.add(List.copyOf(slab.list.subList(k, slab.list.size())));
            }
        }
        return ends;
    }

    private static boolean[][] besides(State state) {
        boolean[][] beside = new boolean[10][10];
        for (Slab slab : slabs(state)) {
            int below = 0;
            for (int edge : slab.list) {
                int region = state.edges.get(edge).region;
                if (region != below) {
                    beside[region][below] = true;
                    beside[below][region] = true;
                }
                below = region;
            }
        }
        return beside;
    }

    private static boolean isPoint(int x, int y) {
        return 0 <= x && x <= 63 && 0 <= y && y <= 63;
    }

    private State ago(int ago) {
        if (!hasMap || ago < 0 || ago > undo.size()) {
            return null;
        }
        return ago == 0 ? now : undo.get(undo.size() - ago);
    }

    // ---- asked of the map ----

    int rule(int what) {
        if (!hasMap) {
            return NONE;
        }
        Set<Integer> regions = new HashSet<>();
        now.edges.values().forEach(e -> regions.add(e.region));
        int[] rule = {now.edges.size(), slabs(now).size(), regions.size(), names.size()};
        return what >= 0 && what < 4 ? rule[what] : NONE;
    }

    int edge(int edge, int what) {
        Edge e = now.edges.get(edge);
        if (e == null || what < 0 || what > 6) {
            throw new NoSuchElementException();
        }
        int lists = 0;
        int first = NONE;
        List<Slab> slabs = slabs(now);
        for (int i = 0; i < slabs.size(); i++) {
            if (slabs.get(i).list.contains(edge)) {
                lists++;
                first = first == NONE ? i : first;
            }
        }
        return new int[] {e.x, e.y, e.toX, e.toY, e.region, lists, first}[what];
    }

    int slab(int slab, int what) {
        List<Slab> slabs = slabs(now);
        if (slab < 0 || slab >= slabs.size() || what < 0 || what > 2) {
            return NONE;
        }
        Slab s = slabs.get(slab);
        return new int[] {s.from, s.to, s.list.size()}[what];
    }

    int list(int slab, int k) {
        List<Slab> slabs = slabs(now);
        if (slab < 0 || slab >= slabs.size() || k < 0 || k >= slabs.get(slab).list.size()) {
            return NONE;
        }
        return slabs.get(slab).list.get(k);
    }

    int at(int ago, int x, int y, int what) {
        State state = ago(ago);
        if (state == null || !isPoint(x, y) || what < 0 || what > 3) {
            return NONE;
        }
        List<Slab> slabs = slabs(state);
        int slab = slabOf(slabs, x);
        int top = top(state, slabs, x, y);
        int below = 0;
        if (slab != NONE) {
            for (int edge : slabs.get(slab).list) {
                below += compareHeight(state.edges.get(edge), x, 1, y) <= 0 ? 1 : 0;
            }
        }
        return new int[] {top, top == NONE ? 0 : state.edges.get(top).region, slab, below}[what];
    }

    int above(int x, int y, int i) {
        List<Slab> slabs = slabs(now);
        int slab = isPoint(x, y) ? slabOf(slabs, x) : NONE;
        if (slab == NONE) {
            return NONE;
        }
        List<Integer> above = new ArrayList<>();
        for (int edge : slabs.get(slab).list) {
            if (compareHeight(now.edges.get(edge), x, 1, y) > 0) {
                above.add(edge);
            }
        }
        return i >= 0 && i < above.size() ? above.get(i) : NONE;
    }

    int way(int x, int y, int toX, int toY, int i) {
        if (!hasMap || !isPoint(x, y) || !isPoint(toX, toY)) {
            return NONE;
        }
        List<Integer> met = new ArrayList<>();
        now.edges.forEach((number, e) -> {
            if (cross(e, x, y, toX, toY)) {
                met.add(number);
            }
        });
        return i == NONE ? met.size() : i >= 0 && i < met.size() ? met.get(i) : NONE;
    }

    int points(int ago, int region) {
        State state = ago(ago);
        return state == null || region < 0 || region > 9 ? NONE : count(regions(state), region);
    }

    int beside(int region) {
        if (!hasMap || region < 0 || region > 9) {
            return NONE;
        }
        int bits = 0;
        boolean[] row = besides(now)[region];
        for (int r = 0; r < 10; r++) {
            bits += row[r] ? 1 << r : 0;
        }
        return bits;
    }

    int colours(int region) {
        if (!hasMap || region < -1 || region > 9) {
            return NONE;
        }
        boolean[][] beside = besides(now);
        int[] colour = new int[10];
        int many = 1;
        while (!painted(beside, colour, 0, many)) {
            many++;
        }
        return region == NONE ? many : colour[region];
    }

    private static boolean painted(boolean[][] beside, int[] colour, int region, int many) {
        if (region == 10) {
            return true;
        }
        for (int c = 0; c < many; c++) {
            boolean free = true;
            for (int r = 0; r < region; r++) {
                free &= !(beside[r][region] && colour[r] == c);
            }
            if (free) {
                colour[region] = c;
                if (painted(beside, colour, region + 1, many)) {
                    return true;
                }
            }
        }
        return false;
    }

    // ---- acts: kind and numbers, as a step tells them ----

    private int refusal(State state, int[] part) {
        switch (part[0]) {
            case 'd':
                return state.edges.containsKey(part[1]) ? NONE : 0;
            case 'r':
                if (!state.edges.containsKey(part[1])) {
                    return 0;
                }
                if (part[2] < 0 || part[2] > 9) {
                    return 1;
                }
                return state.edges.get(part[1]).region == part[2] ? 2 : NONE;
            case 'm':
                if (part[1] < -63 || part[1] > 63 || part[2] < -63 || part[2] > 63) {
                    return 1;
                }
                if (part[1] == 0 && part[2] == 0) {
                    return 2;
                }
                for (Edge e : state.edges.values()) {
                    Edge m = e.moved(part[1], part[2]);
                    if (!isPoint(m.x, m.y) || !isPoint(m.toX, m.toY)) {
                        return 3;
                    }
                }
                return NONE;
            default:
                if (!isPoint(part[1], part[2]) || !isPoint(part[3], part[4]) || part[5] < 0 || part[5] > 9) {
                    return 1;
                }
                if (part[1] >= part[3]) {
                    return 2;
                }
                if (state.edges.size() == 24) {
                    return 3;
                }
                for (Edge e : state.edges.values()) {
                    if (cross(e, part[1], part[2], part[3], part[4])) {
                        return 3;
                    }
                }
                return NONE;
        }
    }

    private static int apply(State state, int[] part) {
        switch (part[0]) {
            case 'd':
                return state.edges.remove(part[1]).region;
            case 'r':
                Edge was = state.edges.get(part[1]);
                state.edges.put(part[1], was.told(part[2]));
                return was.region;
            case 'm':
                state.edges.replaceAll((number, e) -> e.moved(part[1], part[2]));
                return state.edges.size();
            default:
                int number = 0;
                while (state.edges.containsKey(number)) {
                    number++;
                }
                state.edges.put(number, new Edge(part[1], part[2], part[3], part[4], part[5]));
                return number;
        }
    }

    private int act(int[] part, boolean counts) {
        int reason = hasMap ? refusal(now, part) : 0;
        if (reason != NONE) {
            status[reason] += counts ? 1 : 0;
            return NONE;
        }
        undo.add(now.copy());
        if (undo.size() > 40) {
            undo.remove(0);
        }
        int answer = apply(now, part);
        int sort = "adrm".indexOf((char) part[0]);
        now.log.add(new int[] {sort, sort == 0 ? answer : part[1], slabs(now).size()});
        if (now.log.size() > 60) {
            now.log.remove(0);
        }
        return answer;
    }

    int add(int x, int y, int toX, int toY, int region) {
        return act(new int[] {'a', x, y, toX, toY, region}, true);
    }

    int drop(int edge) {
        return act(new int[] {'d', edge}, true);
    }

    int tell(int edge, int region) {
        return act(new int[] {'r', edge, region}, true);
    }

    int move(int x, int y) {
        return act(new int[] {'m', x, y}, true);
    }

    private long drawn;

    private int draw(int j) {
        drawn = drawn * 6364136223846793005L + 1442695040888963407L;
        return (int) Long.remainderUnsigned(drawn >>> 33, j);
    }

    int ways(int n, long seed) {
        if (!hasMap || n < 1 || n > 40) {
            return NONE;
        }
        drawn = seed;
        for (int i = 0; i < n; i++) {
            int sort = draw(8);
            int[] part;
            if (sort < 4) {
                int[] p = {draw(64), draw(64), draw(64), draw(64), draw(10)};
                part = p[0] <= p[2] ? new int[] {'a', p[0], p[1], p[2], p[3], p[4]}
                        : new int[] {'a', p[2], p[3], p[0], p[1], p[4]};
            } else if (sort == 4) {
                part = new int[] {'d', draw(24)};
            } else if (sort < 7) {
                part = new int[] {'r', draw(24), draw(10)};
            } else {
                part = new int[] {'m', draw(9) - 4, draw(9) - 4};
            }
            act(part, false);
        }
        return slabs(now).size();
    }

    int status(int what) {
        return what >= 0 && what < 4 ? status[what] : NONE;
    }

    int undo() {
        if (undo.isEmpty()) {
            return NONE;
        }
        now = undo.remove(undo.size() - 1);
        return undo.size();
    }

    int log(int i, int what) {
        if (i < 0 || i >= now.log.size() || what < 0 || what > 2) {
            return HIDDEN;
        }
        return now.log.get(now.log.size() - 1 - i)[what];
    }

    // ---- of the whole map ----

    int idle() {
        if (!hasMap) {
            return NONE;
        }
        int bits = 0;
        for (int number : now.edges.keySet()) {
            boolean parts = false;
            for (Slab slab : slabs(now)) {
                int k = slab.list.indexOf(number);
                if (k >= 0) {
                    int below = k == 0 ? 0 : now.edges.get(slab.list.get(k - 1)).region;
                    parts |= below != now.edges.get(number).region;
                }
            }
            bits |= parts ? 0 : 1 << number;
        }
        return bits;
    }

    int ends(int ago) {
        if (!hasMap || ago != NONE && ago(ago) == null) {
            return NONE;
        }
        Set<List<Integer>> ends = endsOf(now);
        if (ago != NONE) {
            ends.retainAll(endsOf(ago(ago)));
        }
        return ends.size();
    }

    int like(int ago, int what) {
        State then = ago(ago);
        if (then == null || what < 0 || what > 1) {
            return NONE;
        }
        int like = 0;
        if (what == 0) {
            int[][] a = regions(now);
            int[][] b = regions(then);
            for (int x = 0; x < 64; x++) {
                for (int y = 0; y < 64; y++) {
                    like += a[x][y] == b[x][y] ? 1 : 0;
                }
            }
            return like;
        }
        Set<List<Integer>> lists = new HashSet<>();
        slabs(then).forEach(s -> lists.add(s.list));
        for (Slab slab : slabs(now)) {
            like += lists.contains(slab.list) ? 1 : 0;
        }
        return like;
    }

    int stairs(int what) {
        List<Slab> slabs = slabs(now);
        if (slabs.isEmpty() || what < 0 || what > 1) {
            return NONE;
        }
        int best = 0;
        for (int i = 1; i < slabs.size(); i++) {
            Slab a = slabs.get(best);
            Slab b = slabs.get(i);
            boolean better = what == 0 ? b.list.size() > a.list.size() : b.to - b.from > a.to - a.from;
            best = better ? i : best;
        }
        return best;
    }

    int would(int x, int y, int toX, int toY, int region, int what) {
        int[] part = {'a', x, y, toX, toY, region};
        if (!hasMap || refusal(now, part) != NONE || what < -2 || what > 9) {
            return NONE;
        }
        State then = now.copy();
        apply(then, part);
        if (what == -1) {
            return slabs(then).size();
        }
        return what == -2 ? endsOf(then).size() : count(regions(then), what);
    }

    int blocks(int x, int y, int toX, int toY) {
        if (hasMap && isPoint(x, y) && isPoint(toX, toY) && x < toX) {
            for (int number : now.edges.keySet()) {
                if (cross(now.edges.get(number), x, y, toX, toY)) {
                    return number;
                }
            }
        }
        return NONE;
    }

    int near(int x, int y) {
        int edge = at(0, x, y, 0);
        if (edge == NONE) {
            return NONE;
        }
        int steps = 0;
        while (compareHeight(now.edges.get(edge), x, 1, y - steps - 1) <= 0) {
            steps++;
        }
        return steps;
    }

    int name(int region, int i) {
        if (region < 0 || region > 9) {
            return NONE;
        }
        String name = names.getOrDefault(region, "");
        return i == NONE ? name.length() : i >= 0 && i < name.length() ? name.charAt(i) : NONE;
    }

    int step(int script, int i, int what) {
        if (script < 0 || script >= scripts.size() || i < 0 || i >= scripts.get(script).size() || what < 0
                || what > 5) {
            return HIDDEN;
        }
        int[] part = scripts.get(script).get(i);
        return what == 0 ? "adrm".indexOf((char) part[0]) : part[what];
    }

    int run(int script, int what) {
        if (!hasMap || script < 0 || script >= scripts.size() || what < 0 || what > 1) {
            return HIDDEN;
        }
        State state = now.copy();
        int done = 0;
        for (int[] part : scripts.get(script)) {
            if (refusal(state, part) != NONE) {
                return what == 0 ? done : slabs(state).size();
            }
            apply(state, part);
            done++;
        }
        return what == 0 ? NONE : slabs(state).size();
    }

    int perform(int script) {
        if (!hasMap || script < 0 || script >= scripts.size()) {
            return NONE;
        }
        int done = 0;
        for (int[] part : scripts.get(script)) {
            if (act(part, false) == NONE) {
                return done;
            }
            done++;
        }
        return done;
    }

    int all(int what) {
        if (!hasMap || what < 0 || what > 5) {
            return HIDDEN;
        }
        int members = 0;
        for (Slab slab : slabs(now)) {
            members += slab.list.size();
        }
        int[][] grid = regions(now);
        int with = 0;
        int most = NONE;
        for (int r = 0; r < 10; r++) {
            int points = count(grid, r);
            with += points > 0 ? 1 << r : 0;
            most = r > 0 && points > (most == NONE ? 0 : count(grid, most)) ? r : most;
        }
        int couples = 0;
        boolean[][] beside = besides(now);
        for (int r = 0; r < 10; r++) {
            for (int q = 0; q < r; q++) {
                couples += beside[r][q] ? 1 : 0;
            }
        }
        int longest = NONE;
        Set<Integer> points = new HashSet<>();
        for (Map.Entry<Integer, Edge> entry : now.edges.entrySet()) {
            Edge e = entry.getValue();
            Edge l = now.edges.get(longest);
            longest = l == null || e.toX - e.x > l.toX - l.x ? entry.getKey() : longest;
            points.add(e.x * 64 + e.y);
            points.add(e.toX * 64 + e.toY);
        }
        return new int[] {members, with, couples, most, longest, points.size()}[what];
    }

    int image() {
        if (!hasMap) {
            return NONE;
        }
        image = now.copy();
        return slabs(now).size();
    }

    int back() {
        if (image == null) {
            return NONE;
        }
        now = image.copy();
        undo.clear();
        return slabs(now).size();
    }

    int count(int what) {
        int[] counts = {now.edges.size(), scripts.size(), tape.length(), now.log.size(), undo.size()};
        return what >= 0 && what < 5 ? counts[what] : HIDDEN;
    }
}
