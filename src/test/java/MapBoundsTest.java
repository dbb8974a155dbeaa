import java.util.Arrays;
import java.util.NoSuchElementException;

/**
 * The document's sections 2 and 3 and its promises 6 to 15, 24 to 30, 35, as far as they ask of a map, sentence by
 * sentence: the cases at the bounds that each one names, on either side of them.
 */
public final class MapBoundsTest {
    private static final int NONE = SlabMap.NONE;
    private static final int HIDDEN = SlabMap.HIDDEN;
    private static final int MIN = Integer.MIN_VALUE;
    private static final int MAX = Integer.MAX_VALUE;
    private static final int[] NO_PLACE = {-1, 64, MIN, MAX};
    private static final String FAN = "e0,10,20,20,1;e0,10,20,0,2;e0,10,20,10,3";
    /** In its lists each two of the ten regions are beside one another: all 45 couples. */
    private static final String TEN_BESIDE = "e23,0,25,0,9;e24,1,38,1,6;e6,2,34,2,5;e9,3,36,3,7;e4,4,23,4,1;"
            + "e6,5,24,5,4;e7,6,46,6,3;e4,7,24,7,9;e8,8,42,8,4;e40,9,43,9,5;e32,10,36,10,2;e14,11,31,11,0;"
            + "e33,12,42,12,8;e32,13,37,13,1;e8,14,30,14,6;e22,15,44,15,2;e40,16,47,16,9;e8,17,27,17,1;e29,18,41,18,0;"
            + "e9,19,16,19,3;e37,20,40,20,8;e10,21,43,21,7;e27,22,32,22,6;e3,23,47,23,8";

    public static void main(String[] args) {
        toTheRight();
        crossing();
        noTwoCross();
        numbers();
        slabs();
        lists();
        slabOfAPoint();
        onTop();
        regionOfAPoint();
        besides();
        rule();
        edge();
        slab();
        list();
        at();
        above();
        way();
        points();
        beside();
        colours();
        idle();
        ends();
        like();
        stairs();
        would();
        blocks();
        near();
        allSums();
        allRegions();
        allLongest();
        allEnds();
        Check.close("MapBoundsTest");
    }

    // ---- what is asked here ----

    private static void answers(String call, int got, int due) {
        Check.same(call, got, due);
    }

    private static SlabMap empty() {
        return Check.mapOf("e1,1,1,1,1");
    }

    /** Edges 0 to 23 all the way, at Y 1 to 24. */
    private static SlabMap full() {
        SlabMap x = empty();
        for (int i = 0; i < 24; i++) {
            x.add(0, i + 1, 63, i + 1, 1);
        }
        return x;
    }

    /** Edge i from X i to 63 - i: lists of 1 to 24 edges and down again. */
    private static SlabMap nested() {
        SlabMap x = empty();
        for (int i = 0; i < 24; i++) {
            x.add(i, i, 63 - i, i, i % 10);
        }
        return x;
    }

    // ---- section 2 ----

    private static void toTheRight() {
        Check.of("An EDGE goes from a point to one further right (X greater)");
        SlabMap x = empty();
        answers("one step to the right", x.add(62, 63, 63, 0, 1), 0);
        answers("all the way", x.add(0, 0, 63, 0, 1), 1);
        answers("straight up", x.add(5, 5, 5, 6, 1), NONE);
        answers("a point", x.add(5, 5, 5, 5, 1), NONE);
        answers("one step to the left", x.add(6, 5, 5, 5, 1), NONE);
        answers("no more than these", x.count(0), 2);
        Check.of("it has a REGION: that above it");
        x = Check.mapOf("e0,10,63,10,7");
        answers("on it", x.at(0, 5, 10, 1), 7);
        answers("above it", x.at(0, 5, 63, 1), 7);
        answers("below it", x.at(0, 5, 9, 1), 0);
    }

    private static void pair(boolean cross, int[] a, int[] b) {
        String pair = Arrays.toString(a) + " and " + Arrays.toString(b);
        SlabMap x = empty();
        x.add(a[0], a[1], a[2], a[3], 1);
        answers("would " + pair, x.would(b[0], b[1], b[2], b[3], 2, 0) == NONE ? 1 : 0, cross ? 1 : 0);
        answers("blocks " + pair, x.blocks(b[0], b[1], b[2], b[3]), cross ? 0 : NONE);
        answers("add " + pair, x.add(b[0], b[1], b[2], b[3], 2), cross ? NONE : 1);
        answers("status " + pair, x.status(3), cross ? 1 : 0);
    }

    private static void crossing() {
        Check.of("Two EDGES CROSS, if they have a point in common that is an end of neither, or more than one.");
        int[] level = {10, 10, 30, 10};
        int[][] apart = {{30, 10, 50, 10}, {0, 10, 10, 10}, {10, 10, 30, 11}, {10, 9, 30, 10}, {20, 10, 25, 20},
            {15, 0, 20, 10}, {10, 10, 11, 63}, {29, 0, 30, 10}, {0, 11, 63, 11}, {31, 0, 32, 63}, {9, 9, 11, 11},
            {29, 11, 31, 9}, {9, 9, 10, 11}, {0, 0, 10, 10}, {30, 10, 31, 0}, {0, 9, 60, 11},
            {0, 9, 63, 11}};
        int[][] across = {{10, 10, 30, 10}, {11, 10, 29, 10}, {0, 10, 11, 10}, {29, 10, 63, 10}, {10, 10, 11, 10},
            {29, 10, 30, 10}, {0, 10, 63, 10}, {0, 0, 40, 20}, {10, 9, 11, 11}, {29, 11, 30, 9}, {0, 9, 58, 11}};
        for (int[] other : apart) {
            pair(false, level, other);
            pair(false, other, level);
        }
        for (int[] other : across) {
            pair(true, level, other);
            pair(true, other, level);
        }
        int[][][] steepApart = {{{0, 0, 10, 5}, {10, 5, 20, 10}}, {{0, 0, 63, 62}, {0, 1, 63, 63}},
            {{0, 0, 63, 62}, {0, 1, 61, 61}}, {{0, 0, 20, 10}, {10, 5, 30, 40}}, {{0, 0, 63, 62}, {0, 1, 63, 62}},
            {{0, 63, 63, 0}, {0, 62, 62, 0}}};
        int[][][] steepAcross = {{{0, 0, 10, 5}, {8, 4, 20, 10}}, {{0, 0, 20, 10}, {2, 1, 4, 2}},
            {{0, 0, 63, 62}, {1, 1, 62, 61}}, {{0, 0, 63, 63}, {0, 63, 63, 0}}, {{0, 0, 63, 62}, {0, 1, 62, 61}}};
        for (int[][] both : steepApart) {
            pair(false, both[0], both[1]);
            pair(false, both[1], both[0]);
        }
        for (int[][] both : steepAcross) {
            pair(true, both[0], both[1]);
            pair(true, both[1], both[0]);
        }
    }

    private static void noTwoCross() {
        Check.of("No two CROSS.");
        for (int seed = 0; seed < 20; seed++) {
            SlabMap x = empty();
            for (int i = 0; i < 5; i++) {
                x.ways(40, seed * 5 + i);
            }
            int crossing = 0;
            for (int i = 0; i < 24; i++) {
                for (int k = 0; k < i; k++) {
                    crossing += cross(ends(x, i), ends(x, k)) ? 1 : 0;
                }
            }
            answers("edges that cross", crossing, 0);
        }
    }

    /** Of an edge X, Y, X, Y; of none a point. */
    private static int[] ends(SlabMap x, int edge) {
        try {
            return new int[] {x.edge(edge, 0), x.edge(edge, 1), x.edge(edge, 2), x.edge(edge, 3)};
        } catch (NoSuchElementException e) {
            return new int[4];
        }
    }

    private static boolean cross(int[] a, int[] b) {
        return Model.insidesMeet(a[0], a[1], a[2], a[3], b[0], b[1], b[2], b[3]);
    }

    private static void numbers() {
        Check.of("EDGES have numbers 0 .. 23: one that is ADDED has the lowest that none has.");
        SlabMap x = empty();
        for (int i = 0; i < 24; i++) {
            answers("add", x.add(0, i, 63, i, 1), i);
        }
        answers("there is no number 24", x.add(0, 40, 63, 40, 1), NONE);
        answers("the last edge", x.edge(23, 1), 23);
        Check.noEdge(x, 24, 0);
        x.drop(5);
        x.drop(23);
        x.drop(0);
        answers("the lowest", x.add(0, 40, 63, 40, 2), 0);
        answers("the next", x.add(0, 41, 63, 41, 2), 5);
        answers("the last", x.add(0, 42, 63, 42, 2), 23);
        answers("none", x.add(0, 43, 63, 43, 2), NONE);
        answers("the last edge", x.edge(23, 1), 42);
        answers("the ones between stay", x.edge(22, 1), 22);
    }

    private static void slabs() {
        Check.of("SLABS: between each X at which an EDGE ends and the next such X, numbered from the left from 0 on.");
        answers("no edge", empty().rule(1), 0);
        slabs("e0,0,63,0,1", 0, 63);
        slabs("e5,0,6,63,1", 5, 6);
        slabs("e0,0,10,0,1;e10,0,20,0,1", 0, 10, 20);
        slabs("e0,0,10,0,1;e20,0,30,0,1", 0, 10, 20, 30);
        slabs("e0,0,10,0,1;e0,1,10,1,1", 0, 10);
        slabs("e62,0,63,0,1;e0,0,1,0,1", 0, 1, 62, 63);
        slabs("e0,0,63,0,1;e31,5,32,5,2", 0, 31, 32, 63);
        SlabMap x = nested();
        answers("the most", x.rule(1), 47);
        for (int slab = 0; slab < 47; slab++) {
            answers("from", x.slab(slab, 0), slab <= 23 ? slab : slab + 16);
            answers("to", x.slab(slab, 1), slab < 23 ? slab + 1 : slab + 17);
        }
    }

    private static void slabs(String text, int... ends) {
        SlabMap x = Check.mapOf(text);
        answers("slabs of " + text, x.rule(1), ends.length - 1);
        for (int slab = 0; slab + 1 < ends.length; slab++) {
            answers("from, of " + text, x.slab(slab, 0), ends[slab]);
            answers("to, of " + text, x.slab(slab, 1), ends[slab + 1]);
        }
        answers("no more of " + text, x.slab(ends.length - 1, 0), NONE);
    }

    private static void lists() {
        Check.of("In a SLAB lie the EDGES that go all the way through it, from below upwards: its LIST.");
        lists(FAN, new int[][] {{1, 2, 0}});
        lists("e0,20,20,10,1;e0,0,20,10,2;e0,10,20,10,3", new int[][] {{1, 2, 0}});
        lists("e0,0,10,0,1;e10,5,20,5,2", new int[][] {{0}, {1}});
        lists("e0,0,10,0,1;e11,5,20,5,2", new int[][] {{0}, {}, {1}});
        lists("e0,5,30,5,1;e10,0,20,0,2", new int[][] {{0}, {1, 0}, {0}});
        lists("e0,0,30,0,1;e10,5,20,5,2", new int[][] {{0}, {0, 1}, {0}});
        // they touch at 10,5, where the one ends inside of the other
        lists("e0,0,20,10,1;e0,10,10,5,2", new int[][] {{0, 1}, {0}});
        lists("e0,0,20,10,1;e10,5,20,0,2", new int[][] {{0}, {1, 0}});
        lists("e0,0,63,1,1;e0,0,63,0,2;e0,1,63,1,3", new int[][] {{1, 0, 2}});
        SlabMap x = full();
        for (int k = 0; k < 24; k++) {
            answers("all in one list", x.list(0, k), k);
        }
        x = empty();
        for (int i = 0; i < 24; i++) {
            x.add(0, 24 - i, 63, 24 - i, 1);
        }
        for (int k = 0; k < 24; k++) {
            answers("the last one is the lowest", x.list(0, k), 23 - k);
        }
        x = empty();
        for (int i = 0; i < 24; i++) {
            x.add(0, i * 7 % 24, 63, i * 7 % 24, 1);
        }
        for (int k = 0; k < 24; k++) {
            // 7 times 7 is 1 modulo 24
            answers("without an order", x.list(0, k), k * 7 % 24);
        }
    }

    private static void lists(String text, int[][] due) {
        SlabMap x = Check.mapOf(text);
        for (int slab = 0; slab < due.length; slab++) {
            answers("length, of " + text, x.slab(slab, 2), due[slab].length);
            for (int k = 0; k < due[slab].length; k++) {
                answers("list(" + slab + ", " + k + ") of " + text, x.list(slab, k), due[slab][k]);
            }
            answers("no more in it, of " + text, x.list(slab, due[slab].length), NONE);
        }
        answers("slabs of " + text, x.rule(1), due.length);
    }

    private static void slabOfAPoint() {
        Check.of("A point X, Y (0 .. 63 each) is in the SLAB that begins at X or is the last one to begin ahead of it");
        SlabMap x = Check.mapOf("e5,0,10,0,1;e20,0,30,0,1");
        int[][] in = {{5, 0}, {6, 0}, {9, 0}, {10, 1}, {19, 1}, {20, 2}, {29, 2}};
        for (int[] xAndSlab : in) {
            answers("x " + xAndSlab[0], x.at(0, xAndSlab[0], 0, 2), xAndSlab[1]);
            answers("x " + xAndSlab[0], x.at(0, xAndSlab[0], 63, 2), xAndSlab[1]);
        }
        Check.of("(none: ahead of all, or no less than where the last one ends)");
        for (int no : new int[] {0, 4, 30, 31, 63}) {
            answers("x " + no, x.at(0, no, 0, 2), NONE);
        }
        x = Check.mapOf("e0,0,63,0,1");
        answers("x 0", x.at(0, 0, 0, 2), 0);
        answers("x 62", x.at(0, 62, 63, 2), 0);
        answers("x 63", x.at(0, 63, 63, 2), NONE);
        answers("no slab", empty().at(0, 1, 1, 2), NONE);
        x = nested();
        answers("the last slab", x.at(0, 62, 0, 2), 46);
        answers("the widest", x.at(0, 39, 0, 2), 23);
        answers("the one behind it", x.at(0, 40, 0, 2), 24);
    }

    private static void onTop() {
        Check.of("It is ON TOP of that EDGE which is the highest of the LIST that is at its X no higher than Y"
                + " (none: of none).");
        SlabMap x = Check.mapOf("e10,10,14,11,1;e20,11,24,10,2");
        int[][] due = {{10, 10, 0}, {10, 9, NONE}, {11, 10, NONE}, {11, 11, 0}, {13, 10, NONE}, {13, 11, 0},
            {13, 63, 0}, {20, 11, 1}, {20, 10, NONE}, {21, 10, NONE}, {23, 10, NONE}, {23, 11, 1},
            {14, 11, NONE}, {24, 10, NONE}};
        for (int[] n : due) {
            answers("at(0, " + n[0] + ", " + n[1] + ", 0)", x.at(0, n[0], n[1], 0), n[2]);
        }
        x = Check.mapOf(FAN);
        answers("where three begin: the highest", x.at(0, 0, 10, 0), 0);
        answers("a step on: the level one", x.at(0, 1, 10, 0), 2);
        answers("a step on, a step higher", x.at(0, 1, 11, 0), 0);
        answers("a step on, a step lower", x.at(0, 1, 9, 0), NONE);
        answers("two steps on, a step lower", x.at(0, 2, 9, 0), 1);
        answers("63 on an edge", Check.mapOf("e0,63,63,63,1").at(0, 0, 63, 0), 0);
        answers("62 below it", Check.mapOf("e0,63,63,63,1").at(0, 0, 62, 0), NONE);
        answers("0 on an edge", Check.mapOf("e0,0,63,0,1").at(0, 62, 0, 0), 0);
        answers("the highest of all", full().at(0, 0, 63, 0), 23);
        answers("on the highest", full().at(0, 0, 24, 0), 23);
        answers("a step below it", full().at(0, 0, 23, 0), 22);
    }

    private static void regionOfAPoint() {
        Check.of("Its REGION: that of this EDGE; without one 0.");
        SlabMap x = Check.mapOf("e10,10,20,10,9;e10,20,20,20,0;e30,10,40,10,5");
        int[][] due = {{9, 63, 0}, {10, 9, 0}, {10, 10, 9}, {19, 19, 9}, {19, 20, 0}, {19, 63, 0}, {20, 63, 0},
            {29, 63, 0}, {30, 63, 5}, {40, 63, 0}, {63, 0, 0}};
        for (int[] n : due) {
            answers("at(0, " + n[0] + ", " + n[1] + ", 1)", x.at(0, n[0], n[1], 1), n[2]);
        }
        answers("no edge", empty().at(0, 1, 1, 1), 0);
    }

    private static void besides() {
        Check.of("Two REGIONS are BESIDE one another, if in some LIST an EDGE has the one, and that next below it"
                + " (0 below the lowest one) the other (unlike ones).");
        beside("e1,1,1,1,1", new int[10]);
        beside("e0,0,9,0,0", new int[10]);
        beside("e0,0,9,0,9", 1 << 9, 0, 0, 0, 0, 0, 0, 0, 0, 1);
        // two lists, side by side: of one region each
        beside("e0,0,10,0,3;e10,0,20,0,4", 1 << 3 | 1 << 4, 0, 0, 1, 1, 0, 0, 0, 0, 0);
        // like ones one above the other, 0 on top
        beside("e0,0,9,0,3;e0,5,9,5,3;e0,9,9,9,0", 1 << 3, 0, 0, 1, 0, 0, 0, 0, 0, 0);
        // 1 and 3 with 2 between them but where it is wanting
        beside("e0,0,20,0,1;e0,5,10,5,2;e0,9,20,9,3", 1 << 1, 1 | 1 << 2 | 1 << 3, 1 << 1 | 1 << 3, 1 << 1 | 1 << 2,
                0, 0, 0, 0, 0, 0);
        beside("e0,0,10,0,1;e0,5,10,5,2;e0,9,10,9,3", 1 << 1, 1 | 1 << 2, 1 << 1 | 1 << 3, 1 << 2, 0, 0, 0, 0, 0, 0);
    }

    private static void beside(String text, int... due) {
        SlabMap x = Check.mapOf(text);
        for (int region = 0; region < 10; region++) {
            answers("beside(" + region + ") of " + text, x.beside(region), due[region]);
        }
    }

    // ---- promises ----

    private static void rule() {
        Check.of("0 EDGES, 1 SLABS, 2 REGIONS that some EDGE has, 3 NAMES told. NONE: no MAP, no such what.");
        SlabMap x = Check.mapOf("e0,0,9,0,0;n0a;n9z");
        answers("edges", x.rule(0), 1);
        answers("slabs", x.rule(1), 1);
        answers("the region 0", x.rule(2), 1);
        answers("names of 0 and 9", x.rule(3), 2);
        x = full();
        answers("24", x.rule(0), 24);
        answers("of one region", x.rule(2), 1);
        x.tell(23, 9);
        answers("and that of the last", x.rule(2), 2);
        answers("all ten", nested().rule(2), 10);
        answers("none", empty().rule(2), 0);
        answers("none", empty().rule(3), 0);
        for (int no : new int[] {4, -1, MIN, MAX}) {
            answers("rule(" + no + ")", x.rule(no), NONE);
        }
        for (int what = 0; what < 4; what++) {
            answers("no map", new SlabMap().rule(what), NONE);
        }
    }

    private static void edge() {
        Check.of("Of an EDGE: 0 to 3 X, Y, X, Y, 4 REGION, 5 in how many LISTS it is, 6 the SLAB in which it begins.");
        SlabMap x = nested();
        int[] last = {23, 23, 40, 23, 3, 1, 23};
        int[] first = {0, 0, 63, 0, 0, 47, 0};
        for (int what = 0; what < 7; what++) {
            answers("edge(23, " + what + ")", x.edge(23, what), last[what]);
            answers("edge(0, " + what + ")", x.edge(0, what), first[what]);
        }
        x = Check.mapOf("e0,0,63,0,1;e62,5,63,5,2");
        answers("it begins in the last slab", x.edge(1, 6), 1);
        answers("in one list", x.edge(1, 5), 1);
        Check.of("NoSuchElementException: no such ones.");
        for (int no : new int[] {2, 23, 24, -1, MIN, MAX}) {
            Check.noEdge(x, no, 0);
            Check.noEdge(x, no, 5);
            Check.noEdge(x, no, 6);
        }
        for (int no : new int[] {7, -1, MIN, MAX}) {
            Check.noEdge(x, 0, no);
        }
        x.drop(0);
        Check.noEdge(x, 0, 4);
        Check.noEdge(empty(), 0, 0);
        Check.noEdge(new SlabMap(), 0, 0);
    }

    private static void slab() {
        Check.of("Of a SLAB: 0, 1 its X, from, to, 2 how many EDGES its LIST has. NONE: no such ones.");
        SlabMap x = full();
        answers("from", x.slab(0, 0), 0);
        answers("to", x.slab(0, 1), 63);
        answers("24", x.slab(0, 2), 24);
        answers("none", Check.mapOf("e0,0,1,0,1;e5,0,6,0,1").slab(1, 2), 0);
        for (int no : new int[] {1, 47, -1, MIN, MAX}) {
            for (int what = 0; what < 3; what++) {
                answers("slab(" + no + ", " + what + ")", x.slab(no, what), NONE);
            }
        }
        for (int no : new int[] {3, -1, MIN, MAX}) {
            answers("slab(0, " + no + ")", x.slab(0, no), NONE);
        }
        answers("no edge", empty().slab(0, 2), NONE);
        answers("no map", new SlabMap().slab(0, 2), NONE);
        // fewer slabs than there were
        x = nested();
        x.drop(0);
        answers("the last that there was", x.slab(45, 0), NONE);
        answers("the last", x.slab(44, 1), 62);
    }

    private static void list() {
        Check.of("The k-th EDGE of a LIST from below. NONE: no such one.");
        SlabMap x = nested();
        answers("the highest", x.list(23, 23), 23);
        answers("the lowest", x.list(46, 0), 0);
        answers("one alone", x.list(46, 1), NONE);
        answers("no 25th", x.list(23, 24), NONE);
        for (int no : new int[] {47, -1, MIN, MAX}) {
            answers("list(" + no + ", 0)", x.list(no, 0), NONE);
        }
        for (int no : new int[] {24, 25, -1, MIN, MAX}) {
            answers("list(23, " + no + ")", x.list(23, no), NONE);
        }
        answers("a list without an edge", Check.mapOf("e0,0,1,0,1;e5,0,6,0,1").list(1, 0), NONE);
        answers("no edge", empty().list(0, 0), NONE);
        answers("no map", new SlabMap().list(0, 0), NONE);
    }

    private static void at() {
        Check.of("0 the EDGE ON TOP of which it is, 1 its REGION, 2 its SLAB, 3 how many EDGES of the LIST are"
                + " no higher (0 in no SLAB).");
        SlabMap x = full();
        answers("all", x.at(0, 62, 24, 3), 24);
        answers("all but one", x.at(0, 62, 23, 3), 23);
        answers("the lowest", x.at(0, 0, 1, 3), 1);
        answers("none", x.at(0, 0, 0, 3), 0);
        answers("in no slab", x.at(0, 63, 63, 3), 0);
        answers("where three begin", Check.mapOf(FAN).at(0, 0, 10, 3), 3);
        answers("below them", Check.mapOf(FAN).at(0, 0, 9, 3), 0);
        Check.of("NONE: none, no such point, ago, what.");
        answers("no edge", x.at(0, 0, 0, 0), NONE);
        answers("no slab", x.at(0, 63, 0, 2), NONE);
        for (int what = 0; what < 4; what++) {
            for (int no : NO_PLACE) {
                answers("at(0, " + no + ", 30, " + what + ")", x.at(0, no, 30, what), NONE);
                answers("at(0, 30, " + no + ", " + what + ")", x.at(0, 30, no, what), NONE);
            }
            // the 24 edges were added by as many acts
            for (int no : new int[] {25, 40, 41, -1, MIN, MAX}) {
                answers("at(" + no + ", 30, 30, " + what + ")", x.at(no, 30, 30, what), NONE);
            }
            answers("no map", new SlabMap().at(0, 0, 0, what), NONE);
        }
        answers("24 acts ago", x.at(24, 30, 30, 1), 0);
        answers("23 acts ago", x.at(23, 30, 30, 1), 1);
        for (int no : new int[] {4, -1, MIN, MAX}) {
            answers("at(0, 30, 30, " + no + ")", x.at(0, 30, 30, no), NONE);
        }
    }

    private static void above() {
        Check.of("EDGES of its LIST that are higher than its Y at its X, the lowest first");
        SlabMap x = full();
        answers("the lowest", x.above(5, 0, 0), 0);
        answers("the 24th", x.above(5, 0, 23), 23);
        answers("at the Y of the lowest", x.above(5, 1, 0), 1);
        answers("below the highest", x.above(5, 23, 0), 23);
        answers("at the Y of the highest", x.above(5, 24, 0), NONE);
        x = Check.mapOf("e10,10,14,11,1");
        answers("on its beginning", x.above(10, 10, 0), NONE);
        answers("higher by a fourth", x.above(11, 10, 0), 0);
        answers("lower by a fourth", x.above(13, 11, 0), NONE);
        Check.of("The i-th EDGE ABOVE a point. NONE: no such one.");
        x = full();
        for (int no : new int[] {24, 25, -1, MIN, MAX}) {
            answers("above(5, 0, " + no + ")", x.above(5, 0, no), NONE);
        }
        answers("one fewer", x.above(5, 1, 23), NONE);
        answers("i -1 where some are below", x.above(5, 30, -1), NONE);
        answers("i MAX where some are below", x.above(5, 30, MAX), NONE);
        for (int no : NO_PLACE) {
            answers("x " + no, x.above(no, 0, 0), NONE);
            answers("y " + no, x.above(5, no, 0), NONE);
        }
        answers("in no slab", x.above(63, 0, 0), NONE);
        answers("no edge", empty().above(0, 0, 0), NONE);
        answers("no map", new SlabMap().above(0, 0, 0), NONE);
    }

    private static void way() {
        Check.of("WAY from a point to another one, straight: EDGES with which it has a point in common that is no end"
                + " of the EDGE and no end of the WAY.");
        SlabMap x = full();
        answers("through all", x.way(5, 0, 5, 63, NONE), 24);
        answers("from the lowest to the highest", x.way(5, 1, 5, 24, NONE), 22);
        answers("back", x.way(5, 24, 5, 1, NONE), 22);
        answers("a step further", x.way(5, 1, 5, 25, NONE), 23);
        answers("through the ends", x.way(0, 0, 0, 63, NONE), 0);
        answers("through the other ends", x.way(63, 63, 63, 0, NONE), 0);
        answers("along one", x.way(0, 24, 63, 24, NONE), 1);
        answers("along a part of it", x.way(62, 24, 63, 24, NONE), 1);
        answers("from a point of it to the same", x.way(5, 24, 5, 24, NONE), 0);
        answers("from one to the next", x.way(5, 23, 6, 24, NONE), 0);
        x = Check.mapOf("e10,10,20,10,1");
        answers("up to where it begins", x.way(0, 10, 10, 10, NONE), 0);
        answers("a step on", x.way(0, 10, 11, 10, NONE), 1);
        answers("from where it ends", x.way(20, 10, 63, 10, NONE), 0);
        answers("a step ahead", x.way(19, 10, 63, 10, NONE), 1);
        answers("past its end", x.way(19, 9, 21, 11, NONE), 0);
        Check.of("WAY: how many EDGES (i NONE), the i-th (by number). NONE: no such points, no such one.");
        x = full();
        answers("the first", x.way(5, 63, 5, 0, 0), 0);
        answers("the last", x.way(5, 63, 5, 0, 23), 23);
        answers("the last of 22", x.way(5, 1, 5, 24, 21), 22);
        answers("no more of 22", x.way(5, 1, 5, 24, 22), NONE);
        answers("along the last", x.way(0, 24, 63, 24, 0), 23);
        for (int no : new int[] {24, -2, MIN, MAX}) {
            answers("way(.., " + no + ")", x.way(5, 0, 5, 63, no), NONE);
        }
        for (int no : NO_PLACE) {
            answers("x " + no, x.way(no, 0, 5, 63, NONE), NONE);
            answers("y " + no, x.way(5, no, 5, 63, NONE), NONE);
            answers("to x " + no, x.way(5, 0, no, 63, NONE), NONE);
            answers("to y " + no, x.way(5, 0, 5, no, NONE), NONE);
        }
        answers("the farthest", x.way(0, 0, 63, 63, NONE), 24);
        x.drop(0);
        x.drop(23);
        answers("those that are not gone", x.way(5, 0, 5, 63, NONE), 22);
        answers("the first of them", x.way(5, 0, 5, 63, 0), 1);
        answers("along one that is gone", x.way(0, 24, 63, 24, NONE), 0);
        answers("no edge", empty().way(0, 0, 63, 63, NONE), 0);
        answers("no map", new SlabMap().way(0, 0, 63, 63, NONE), NONE);
    }

    private static void points() {
        Check.of("how many of the 64 by 64 are in it (REGION 0: those in no SLAB, too)");
        answers("no edge", empty().points(0, 0), 4096);
        SlabMap x = Check.mapOf("e0,0,63,0,9");
        answers("63 columns", x.points(0, 9), 63 * 64);
        answers("one column", x.points(0, 0), 64);
        answers("others", x.points(0, 1), 0);
        x = Check.mapOf("e0,63,63,63,9");
        answers("one row", x.points(0, 9), 63);
        answers("the rest", x.points(0, 0), 4096 - 63);
        answers("one point", Check.mapOf("e62,63,63,63,9").points(0, 9), 1);
        answers("the points on the rising edge, and above", Check.mapOf("e0,0,63,63,9").points(0, 9),
                64 * 65 / 2 - 1);
        // at X 0 it is 0 high, at 1 a fourth, then a half, three fourths
        answers("less than a step higher counts a step", Check.mapOf("e0,0,4,1,9").points(0, 9), 64 + 3 * 63);
        for (int seed = 0; seed < 10; seed++) {
            x = empty();
            x.ways(40, seed);
            x.ways(40, ~seed);
            int sum = 0;
            for (int region = 0; region < 10; region++) {
                sum += x.points(0, region);
            }
            answers("all regions together", sum, 4096);
        }
        Check.of("POINTS of a REGION (ago ACTS ago). NONE: no such ones.");
        x = full();
        for (int no : new int[] {10, -1, MIN, MAX}) {
            answers("points(0, " + no + ")", x.points(0, no), NONE);
        }
        answers("24 acts ago", x.points(24, 0), 4096);
        answers("23 acts ago", x.points(23, 1), 63 * 63);
        for (int no : new int[] {25, 40, 41, -1, MIN, MAX}) {
            answers("points(" + no + ", 0)", x.points(no, 0), NONE);
        }
        answers("no map", new SlabMap().points(0, 0), NONE);
    }

    private static void beside() {
        Check.of("REGIONS that are BESIDE a REGION (bits). NONE: no such one, no MAP.");
        SlabMap x = Check.mapOf(TEN_BESIDE);
        for (int region = 0; region < 10; region++) {
            answers("beside(" + region + ")", x.beside(region), 1023 & ~(1 << region));
        }
        for (int no : new int[] {10, -1, MIN, MAX}) {
            answers("beside(" + no + ")", x.beside(no), NONE);
        }
        answers("in the most lists", nested().beside(0), 1 << 1 | 1 << 9);
        answers("none", empty().beside(9), 0);
        answers("no map", new SlabMap().beside(0), NONE);
        x = Check.mapOf("e0,0,9,0,9");
        answers("9", x.beside(0), 1 << 9);
        x.tell(0, 8);
        answers("8 instead", x.beside(0), 1 << 8);
        answers("9 no longer", x.beside(9), 0);
    }

    private static void colours() {
        Check.of("COLOURS: the fewest, so that REGIONS 0 .. 9 that are BESIDE one another have unlike ones");
        answers("none beside another", empty().colours(NONE), 1);
        answers("two", Check.mapOf("e0,0,9,0,9").colours(NONE), 2);
        SlabMap x = Check.mapOf(TEN_BESIDE);
        answers("all beside one another", x.colours(NONE), 10);
        answers("in the most lists: a ring of ten", nested().colours(NONE), 2);
        Check.of("of a REGION the first such (REGION by REGION, each the lowest)");
        for (int region = 0; region < 10; region++) {
            answers("ten beside one another: colours(" + region + ")", x.colours(region), region);
            answers("none: colours(" + region + ")", empty().colours(region), 0);
        }
        // 0 by 3 by 2 by 1, 9 by 0: two do, if 1 has not the lowest that it could have at first
        x = Check.mapOf("e0,0,9,0,3;e0,1,9,1,2;e0,2,9,2,1;e20,0,30,0,9");
        int[] due = {0, 1, 0, 1, 0, 0, 0, 0, 0, 1};
        answers("two", x.colours(NONE), 2);
        for (int region = 0; region < 10; region++) {
            answers("colours(" + region + ")", x.colours(region), due[region]);
        }
        Check.of("COLOURS: how many (region NONE), that of a REGION (0 on). NONE: no MAP, no such one.");
        for (int no : new int[] {10, -2, MIN, MAX}) {
            answers("colours(" + no + ")", x.colours(no), NONE);
        }
        answers("no map", new SlabMap().colours(NONE), NONE);
        answers("no map", new SlabMap().colours(0), NONE);
    }

    private static void idle() {
        Check.of("IDLE: EDGES that in no LIST part unlike REGIONS (bits).");
        answers("the first: 0 over 0", Check.mapOf("e0,0,9,0,0").idle(), 1);
        answers("the first parts 0 and 9", Check.mapOf("e0,0,9,0,9").idle(), 0);
        answers("all but the lowest", full().idle(), (1 << 24) - 2);
        SlabMap x = full();
        x.tell(0, 0);
        answers("the lowest and all but the next", x.idle(), (1 << 24) - 3);
        x.tell(23, 2);
        answers("the highest parts", x.idle(), (1 << 23) - 3);
        answers("of the most lists: 0 over 0", nested().idle(), 1);
        answers("in one of two lists", Check.mapOf("e0,0,10,0,1;e0,5,20,5,1").idle(), 0);
        answers("in none of two lists", Check.mapOf("e0,0,20,0,1;e0,5,20,5,1;e5,9,6,9,0").idle(), 2);
        answers("no edge", empty().idle(), 0);
        Check.of("IDLE (bits). NONE: no MAP.");
        answers("no map", new SlabMap().idle(), NONE);
    }

    private static void ends() {
        Check.of("ENDS: each LIST from one of its EDGES on upwards; two are alike, if their EDGES are by number:"
                + " how many unlike ones there are in all LISTS");
        answers("no edge", empty().ends(NONE), 0);
        answers("one", Check.mapOf("e0,0,63,0,1").ends(NONE), 1);
        answers("0; 0 1, 1; 0", Check.mapOf("e0,0,30,0,1;e10,5,20,5,2").ends(NONE), 3);
        answers("0; none; 1", Check.mapOf("e0,0,1,0,1;e5,0,6,0,1").ends(NONE), 2);
        answers("0 1, 1; 1", Check.mapOf("e0,0,10,0,1;e0,5,20,5,1").ends(NONE), 2);
        answers("24 in one list", full().ends(NONE), 24);
        answers("from each to each above it", nested().ends(NONE), 300);
        Check.of("ENDS: how many (ago NONE), how many of them there were ago ACTS ago, too."
                + " NONE: no MAP, no such ago.");
        SlabMap x = full();
        answers("now", x.ends(0), 24);
        answers("an act ago: none without the last", x.ends(1), 0);
        x.tell(3, 5);
        answers("an act ago: all", x.ends(1), 24);
        x.drop(0);
        answers("an act ago: all that are left", x.ends(1), 23);
        answers("26 acts ago there was none", x.ends(26), 0);
        answers("now", x.ends(NONE), 23);
        x.drop(23);
        answers("one fewer", x.ends(NONE), 22);
        x.undo();
        answers("one more", x.ends(NONE), 23);
        Check.of("how many of them there were AGO, too");
        // lists 0 1 2 and 3 1 2; then 0 1 and 3 1; then 0 1 and 3 1 4
        SlabMap y = Check.mapOf("e0,10,10,10,1;e0,20,20,20,2;e0,30,20,30,3;e10,5,20,5,4");
        y.drop(2);
        answers("1, 0 1, 3 1: none there was", y.ends(1), 0);
        y.undo();
        y.add(10, 40, 20, 40, 5);
        answers("2, 1 2, 0 1 2; 4, 2 4, 1 2 4, 3 1 2 4: how many", y.ends(NONE), 7);
        answers("three of them there were", y.ends(1), 3);
        answers("all of them there are", y.ends(0), 7);
        for (int no : new int[] {27, 40, 41, -2, MIN, MAX}) {
            answers("ends(" + no + ")", x.ends(no), NONE);
        }
        answers("no map", new SlabMap().ends(NONE), NONE);
        answers("no map", new SlabMap().ends(0), NONE);
    }

    private static void like() {
        Check.of("LIKE AGO: POINTS that are in the REGION in which they were");
        SlabMap x = Check.mapOf("e0,0,63,0,1");
        answers("now", x.like(0, 0), 4096);
        x.tell(0, 0);
        answers("one column", x.like(1, 0), 64);
        x.tell(0, 1);
        answers("as two acts ago", x.like(2, 0), 4096);
        x.add(0, 63, 1, 63, 9);
        answers("all but one point", x.like(1, 0), 4095);
        x = Check.mapOf("e0,10,63,10,1;e0,20,63,20,2;e0,30,63,30,1");
        x.move(0, 1);
        answers("all but the rows 10, 20 and 30", x.like(1, 0), 63 * 61 + 64);
        x.move(0, 9);
        answers("the rows 0 to 9 of 0, 40 to 63 of 1", x.like(2, 0), 63 * (10 + 24) + 64);
        Check.of("SLABS with LISTS that there were, too (as rows of EDGES)");
        x = Check.mapOf("e0,0,10,0,1;e20,0,30,0,2;e0,5,30,5,3");
        answers("now: 0 2; 2; 1 2", x.like(0, 1), 3);
        x.drop(0);
        answers("2; 1 2", x.like(1, 1), 2);
        x.add(0, 9, 30, 9, 4);
        answers("2 0; 1 2 0", x.like(1, 1), 0);
        x.undo();
        x.move(1, 1);
        answers("moved ones are the same rows", x.like(1, 1), 2);
        x.drop(2);
        answers("1", x.like(1, 1), 0);
        x = Check.mapOf("e0,0,10,0,1;e20,0,30,0,2");
        x.drop(1);
        answers("0", x.like(1, 1), 1);
        x.drop(0);
        answers("no slab", x.like(2, 1), 0);
        answers("no slab now", x.like(0, 1), 0);
        x = Check.mapOf("e0,0,10,0,1;e10,0,20,0,2;e20,0,30,0,3");
        x.drop(1);
        answers("0; 2; none without an edge there was", x.like(1, 1), 2);
        x.undo();
        answers("all three", x.like(0, 1), 3);
        x = nested();
        x.tell(0, 9);
        answers("the most", x.like(1, 1), 47);
        // none of these: the row is another, though it has the same edges, or as many
        x = Check.mapOf("e0,0,10,0,1;e0,5,10,5,2");
        x.drop(0);
        x.add(0, 9, 10, 9, 1);
        answers("1 0 was 0 1", x.like(2, 1), 0);
        x.add(0, 20, 10, 20, 1);
        x.drop(0);
        answers("1 2 was 1 0", x.like(2, 1), 0);
        answers("1 2 was a part of 1 0 2", x.like(1, 1), 0);
        Check.of("LIKE AGO: POINTS (0), SLABS (1). NONE: no such ago, what.");
        for (int no : new int[] {5, 40, 41, -1, MIN, MAX}) {
            answers("like(" + no + ", 0)", x.like(no, 0), NONE);
            answers("like(" + no + ", 1)", x.like(no, 1), NONE);
        }
        for (int no : new int[] {2, -1, MIN, MAX}) {
            answers("like(0, " + no + ")", x.like(0, no), NONE);
        }
        answers("no map", new SlabMap().like(0, 0), NONE);
    }

    private static void stairs() {
        Check.of("STAIRS: the longest LIST (the lowest SLAB of several); the SLAB with the greatest width (likewise).");
        stairs("e0,0,10,0,1;e0,5,10,5,1;e10,0,21,0,1", 0, 1);
        stairs("e10,0,12,0,1;e12,0,15,0,1;e12,5,15,5,1", 1, 1);
        stairs("e0,0,5,0,1;e5,0,10,0,1", 0, 0);
        stairs("e0,0,1,0,1;e62,0,63,0,1", 0, 1);
        stairs("e0,0,63,0,1;e61,5,63,5,1;e62,9,63,9,1", 2, 0);
        stairs("e40,0,50,0,1;e50,0,60,0,1;e55,5,60,5,1;e20,0,30,0,1;e20,5,30,5,1", 0, 0);
        answers("the longest of 47", nested().stairs(0), 23);
        answers("the widest of 47", nested().stairs(1), 23);
        Check.of("STAIRS: the SLAB with the longest LIST (0), with the greatest width (1)."
                + " NONE: no SLAB, no such what.");
        SlabMap x = Check.mapOf("e0,0,63,0,1");
        for (int no : new int[] {2, -1, MIN, MAX}) {
            answers("stairs(" + no + ")", x.stairs(no), NONE);
        }
        for (int what = 0; what < 2; what++) {
            answers("one slab", x.stairs(what), 0);
            answers("no slab", empty().stairs(what), NONE);
            answers("no map", new SlabMap().stairs(what), NONE);
        }
    }

    private static void stairs(String text, int longest, int widest) {
        SlabMap x = Check.mapOf(text);
        answers("the longest of " + text, x.stairs(0), longest);
        answers("the widest of " + text, x.stairs(1), widest);
    }

    private static void would() {
        Check.of("WOULD an EDGE be ADDED: SLABS (what -1), ENDS (-2), POINTS of a REGION (0 .. 9).");
        SlabMap x = Check.mapOf("e0,0,10,0,1");
        answers("slabs", x.would(20, 0, 30, 0, 9, -1), 3);
        answers("ends", x.would(20, 0, 30, 0, 9, -2), 2);
        answers("points of 0", x.would(20, 0, 30, 0, 9, 0), 4096 - 20 * 64);
        answers("points of 9", x.would(20, 0, 30, 0, 9, 9), 10 * 64);
        answers("points of 0 as its region", x.would(0, 5, 10, 5, 0, 0), 4096 - 50);
        answers("the first of all: slabs", empty().would(0, 0, 63, 0, 1, -1), 1);
        answers("the first of all: points", empty().would(0, 0, 63, 0, 9, 9), 63 * 64);
        x = full();
        x.drop(23);
        answers("the 24th: ends", x.would(0, 40, 63, 40, 2, -2), 24);
        answers("the 24th: points", x.would(0, 40, 63, 40, 2, 2), 63 * 24);
        answers("nothing is done", x.count(0) * 100 + x.count(4), 2325);
        Check.of("NONE: as ADDED would be refused, no such what.");
        for (int no : new int[] {-3, 10, MIN, MAX}) {
            answers("would(.., " + no + ")", x.would(0, 40, 63, 40, 2, no), NONE);
        }
        answers("across", x.would(0, 0, 63, 63, 2, 0), NONE);
        answers("not to the right", x.would(5, 40, 5, 50, 2, 0), NONE);
        for (int no : NO_PLACE) {
            answers("x " + no, x.would(no, 40, 63, 40, 2, 0), NONE);
            answers("y " + no, x.would(0, no, 63, 40, 2, 0), NONE);
            answers("to x " + no, x.would(0, 40, no, 40, 2, 0), NONE);
            answers("to y " + no, x.would(0, 40, 63, no, 2, 0), NONE);
        }
        for (int no : new int[] {10, -1, MIN, MAX}) {
            answers("region " + no, x.would(0, 40, 63, 40, no, 0), NONE);
        }
        x.add(0, 50, 63, 50, 1);
        answers("there are 24", x.would(0, 40, 63, 40, 2, 0), NONE);
        answers("no map", new SlabMap().would(0, 0, 1, 0, 1, -1), NONE);
        for (int what = 0; what < 4; what++) {
            answers("no status", x.status(what), 0);
        }
    }

    private static void blocks() {
        Check.of("BLOCKS: which EDGE an EDGE that can't be ADDED CROSSES (the lowest).");
        SlabMap x = full();
        answers("the lowest of all", x.blocks(5, 0, 6, 63), 0);
        answers("the last alone", x.blocks(5, 24, 6, 24), 23);
        answers("from the one ahead of it across the last", x.blocks(5, 23, 6, 25), 23);
        x = Check.mapOf("e0,20,63,20,1;e0,10,63,10,1");
        answers("the lowest by number", x.blocks(5, 0, 6, 63), 0);
        answers("the only one", x.blocks(5, 0, 6, 19), 1);
        Check.of("BLOCKS. NONE: none, a number out of bounds, not to the right, no MAP.");
        answers("none", x.blocks(5, 0, 6, 9), NONE);
        answers("it ends on one", x.blocks(5, 0, 6, 10), NONE);
        answers("there are 24, but none in its way", full().blocks(0, 40, 63, 40), NONE);
        x.drop(1);
        answers("the one in its way is gone", x.blocks(5, 0, 6, 19), NONE);
        for (int no : NO_PLACE) {
            answers("x " + no, x.blocks(no, 0, 6, 63), NONE);
            answers("y " + no, x.blocks(5, no, 6, 63), NONE);
            answers("to x " + no, x.blocks(5, 0, no, 63), NONE);
            answers("to y " + no, x.blocks(5, 0, 6, no), NONE);
        }
        answers("straight up", x.blocks(5, 0, 5, 63), NONE);
        answers("to the left", x.blocks(6, 0, 5, 63), NONE);
        answers("no edge", empty().blocks(0, 0, 63, 63), NONE);
        answers("no map", new SlabMap().blocks(0, 0, 63, 63), NONE);
    }

    private static void near() {
        Check.of("NEAR: of a point the EDGE ON TOP of which it is, by how many whole steps it is higher (cut).");
        SlabMap x = Check.mapOf("e0,0,63,0,1");
        answers("on it", x.near(0, 0), 0);
        answers("one higher", x.near(62, 1), 1);
        answers("the most", x.near(5, 63), 63);
        x = Check.mapOf("e10,10,14,11,1;e20,11,24,10,2");
        answers("by three fourths", x.near(11, 11), 0);
        answers("by one and three fourths", x.near(11, 12), 1);
        answers("by a fourth", x.near(13, 11), 0);
        answers("by one and a fourth", x.near(13, 12), 1);
        answers("falling: by a fourth", x.near(21, 11), 0);
        answers("falling: by one and three fourths", x.near(23, 12), 1);
        answers("of the highest of those that are lower", full().near(0, 63), 39);
        Check.of("NEAR. NONE: as at(0, ..): no EDGE.");
        answers("below it", x.near(10, 9), NONE);
        answers("below it by a fourth", x.near(11, 10), NONE);
        answers("a list without an edge", x.near(15, 63), NONE);
        answers("ahead of all", x.near(9, 63), NONE);
        answers("where the last one ends", x.near(24, 63), NONE);
        for (int no : NO_PLACE) {
            answers("x " + no, x.near(no, 63), NONE);
            answers("y " + no, x.near(10, no), NONE);
        }
        answers("no edge", empty().near(0, 0), NONE);
        answers("no map", new SlabMap().near(0, 0), NONE);
    }

    private static void allSums() {
        Check.of("EDGES of all LISTS added up (0)");
        answers("none", empty().all(0), 0);
        answers("1 to 24 to 1", nested().all(0), 576);
        answers("24 in one", full().all(0), 24);
        Check.of("couples that are BESIDE one another (2)");
        answers("none", empty().all(2), 0);
        answers("one", Check.mapOf("e0,0,9,0,9").all(2), 1);
        answers("all of ten", Check.mapOf(TEN_BESIDE).all(2), 45);
        answers("in the most lists: each and the next, 9 and 0", nested().all(2), 10);
        Check.of("HIDDEN: no MAP, no such what.");
        for (int no : new int[] {6, -1, MIN, MAX}) {
            answers("all(" + no + ")", empty().all(no), HIDDEN);
        }
        for (int what = 0; what < 6; what++) {
            answers("no map", new SlabMap().all(what), HIDDEN);
        }
    }

    private static void allRegions() {
        Check.of("REGIONS with a POINT (1, bits)");
        answers("0 alone", empty().all(1), 1);
        answers("0 and 9", Check.mapOf("e62,63,63,63,9").all(1), 1 | 1 << 9);
        answers("0 and 1", Check.mapOf("e0,0,63,0,1").all(1), 3);
        // both begin at 0,0: the one of 1 is the highest there, that of 9 ends a step on
        answers("9 has no point", Check.mapOf("e0,0,2,1,1;e0,0,1,0,9").all(1), 3);
        Check.of("the REGION (1 .. 9) with most POINTS (3; of several the lowest; NONE without)");
        answers("without", empty().all(3), NONE);
        answers("0 alone", Check.mapOf("e0,0,63,0,0").all(3), NONE);
        answers("one point of 9", Check.mapOf("e62,63,63,63,9").all(3), 9);
        answers("9 by one column", Check.mapOf("e0,0,10,0,1;e10,0,21,0,9").all(3), 9);
        answers("1 as many as 9", Check.mapOf("e0,0,10,0,9;e10,0,20,0,1").all(3), 1);
        answers("1 by one point", Check.mapOf("e0,0,10,0,1;e10,0,20,0,9;e20,63,21,63,1").all(3), 1);
    }

    private static void allLongest() {
        Check.of("the longest EDGE by X (4; of several the lowest; NONE without)");
        answers("without", empty().all(4), NONE);
        answers("the last", Check.mapOf("e0,0,10,63,1;e0,0,11,0,1").all(4), 1);
        answers("of several", Check.mapOf("e0,0,9,0,1;e20,0,30,0,1;e30,0,40,0,1").all(4), 1);
        answers("all alike", full().all(4), 0);
        SlabMap x = full();
        x.drop(0);
        answers("the lowest that is there", x.all(4), 1);
        x = empty();
        for (int i = 0; i < 24; i++) {
            x.add(0, i, 10 + i, i, 1);
        }
        answers("the longest of 24", x.all(4), 23);
    }

    private static void allEnds() {
        Check.of("points that are an end of an EDGE (5; unlike ones)");
        answers("none", empty().all(5), 0);
        answers("in the corners", Check.mapOf("e0,0,63,63,1;e0,63,31,32,1").all(5), 4);
        answers("where three begin", Check.mapOf(FAN).all(5), 4);
        answers("where one ends, another begins", Check.mapOf("e0,0,10,10,1;e10,10,20,0,1").all(5), 3);
        answers("one above the other", Check.mapOf("e0,0,10,10,1;e10,9,20,0,1").all(5), 4);
        answers("48", full().all(5), 48);
        answers("48", nested().all(5), 48);
        SlabMap x = full();
        x.drop(23);
        x.drop(0);
        answers("of edges that are gone none", x.all(5), 44);
    }
}
