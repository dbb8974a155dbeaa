/** Promises 6 to 15: what is asked of the map as it is and as it was. */
public final class MapTest {
    private static final int NONE = SlabMap.NONE;
    private static final int MIN = Integer.MIN_VALUE;
    private static final int MAX = Integer.MAX_VALUE;
    // one edge all the way, one rising, one level from the same point
    private static final String THREE = "e0,10,40,10,1;e10,20,30,40,2;e10,20,30,20,3;n1land";

    public static void main(String[] args) {
        promise6();
        promise7();
        promise8();
        promise9();
        promise10();
        promise10Ago();
        promise11();
        promise12();
        promise13();
        promise14();
        promise15();
        Check.close("MapTest");
    }

    private static void answers(String call, int got, int due) {
        Check.same(call, got, due);
    }

    private static void promise6() {
        SlabMap x = Check.mapOf(THREE);
        answers("rule(0)", x.rule(0), 3);
        answers("rule(1)", x.rule(1), 3);
        answers("rule(2)", x.rule(2), 3);
        answers("rule(3)", x.rule(3), 1);
        answers("rule(4)", x.rule(4), NONE);
        answers("rule(-1)", x.rule(-1), NONE);
        answers("rule(MIN)", x.rule(MIN), NONE);
        x.tell(1, 0);
        x.tell(2, 1);
        answers("REGION 0 that an edge has counts, one of two edges once", x.rule(2), 2);
        x.drop(0);
        answers("slabs of two edges with both ends X in common", x.rule(1), 1);
        x.drop(1);
        x.drop(2);
        answers("no slab", x.rule(1), 0);
        answers("no region", x.rule(2), 0);
        answers("names stay", x.rule(3), 1);
        answers("no map", new SlabMap().rule(0), NONE);
    }

    private static void promise7() {
        SlabMap x = Check.mapOf(THREE);
        int[][] due = {{0, 10, 40, 10, 1, 3, 0}, {10, 20, 30, 40, 2, 1, 1}, {10, 20, 30, 20, 3, 1, 1}};
        for (int edge = 0; edge < 3; edge++) {
            for (int what = 0; what < 7; what++) {
                answers("edge(" + edge + ", " + what + ")", x.edge(edge, what), due[edge][what]);
            }
        }
        for (int no : new int[] {3, 23, 24, -1, MIN, MAX}) {
            Check.noEdge(x, no, 0);
            Check.noEdge(x, no, 6);
        }
        for (int no : new int[] {7, -1, MIN, MAX}) {
            Check.noEdge(x, 0, no);
        }
        x.drop(1);
        Check.noEdge(x, 1, 0);
        answers("the numbers of others stay", x.edge(2, 4), 3);
        Check.noEdge(new SlabMap(), 0, 0);
    }

    private static void promise8() {
        SlabMap x = Check.mapOf("e10,0,20,0,1;e15,9,30,9,1;e40,0,50,0,1;e0,63,63,63,2");
        int[][] due = {{0, 10, 1}, {10, 15, 2}, {15, 20, 3}, {20, 30, 2}, {30, 40, 1}, {40, 50, 2}, {50, 63, 1}};
        answers("slabs", x.rule(1), due.length);
        for (int slab = 0; slab < due.length; slab++) {
            for (int what = 0; what < 3; what++) {
                answers("slab(" + slab + ", " + what + ")", x.slab(slab, what), due[slab][what]);
            }
            answers("what 3", x.slab(slab, 3), NONE);
            answers("what -1", x.slab(slab, -1), NONE);
        }
        answers("slab 7", x.slab(7, 0), NONE);
        answers("slab -1", x.slab(-1, 0), NONE);
        answers("slab MAX", x.slab(MAX, 0), NONE);
        answers("slab MIN", x.slab(MIN, 2), NONE);
        x.drop(3);
        answers("a slab without an edge in its list", x.slab(3, 2), 0);
        answers("it has its X", x.slab(3, 0) * 100 + x.slab(3, 1), 3040);
        answers("no map", new SlabMap().slab(0, 0), NONE);
    }

    private static void promise9() {
        SlabMap x = Check.mapOf(THREE);
        int[][] due = {{0}, {0, 2, 1}, {0}};
        for (int slab = 0; slab < 3; slab++) {
            for (int k = 0; k < due[slab].length; k++) {
                answers("list(" + slab + ", " + k + ")", x.list(slab, k), due[slab][k]);
            }
            answers("past the list", x.list(slab, due[slab].length), NONE);
            answers("k -1", x.list(slab, -1), NONE);
        }
        answers("slab 3", x.list(3, 0), NONE);
        answers("slab -1", x.list(-1, 0), NONE);
        answers("k MAX", x.list(0, MAX), NONE);
        answers("slab MAX", x.list(MAX, MAX), NONE);
        answers("slab MIN", x.list(MIN, MIN), NONE);
        // edges that meet at either end and turn: their order is that inside the slab
        x = Check.mapOf("e0,0,20,20,1;e0,20,20,20,2;e0,20,20,0,3;e0,20,10,11,4");
        answers("an edge that crosses has no number", x.rule(0), 3);
        answers("the one that meets the rising edge only at its end", x.edge(2, 4), 4);
        answers("from below", x.list(0, 0), 0);
        answers("the falling one", x.list(0, 1), 2);
        answers("the level one", x.list(0, 2), 1);
        x = Check.mapOf("e0,30,63,31,1;e0,30,62,31,2;e0,31,63,31,3;e1,30,63,31,4");
        answers("near to one another", x.list(1, 0) * 1000 + x.list(1, 1) * 100 + x.list(1, 2) * 10 + x.list(1, 3),
                301 * 10 + 2);
    }

    private static void at(SlabMap x, int ago, int px, int py, int... due) {
        for (int what = 0; what < 4; what++) {
            answers("at(" + ago + ", " + px + ", " + py + ", " + what + ")", x.at(ago, px, py, what), due[what]);
        }
    }

    private static void promise10() {
        SlabMap x = Check.mapOf(THREE);
        at(x, 0, 0, 9, NONE, 0, 0, 0);
        at(x, 0, 0, 10, 0, 1, 0, 1);
        at(x, 0, 9, 63, 0, 1, 0, 1);
        at(x, 0, 10, 19, 0, 1, 1, 1);
        at(x, 0, 10, 20, 1, 2, 1, 3);
        at(x, 0, 20, 20, 2, 3, 1, 2);
        at(x, 0, 20, 29, 2, 3, 1, 2);
        at(x, 0, 20, 30, 1, 2, 1, 3);
        at(x, 0, 29, 38, 2, 3, 1, 2);
        at(x, 0, 29, 39, 1, 2, 1, 3);
        at(x, 0, 30, 40, 0, 1, 2, 1);
        at(x, 0, 39, 10, 0, 1, 2, 1);
        at(x, 0, 40, 10, NONE, 0, NONE, 0);
        at(x, 0, 63, 63, NONE, 0, NONE, 0);
        for (int what = 0; what < 4; what++) {
            answers("x 64", x.at(0, 64, 0, what), NONE);
            answers("x -1", x.at(0, -1, 0, what), NONE);
            answers("y 64", x.at(0, 0, 64, what), NONE);
            answers("y -1", x.at(0, 0, -1, what), NONE);
            answers("ago 1", x.at(1, 0, 0, what), NONE);
            answers("ago -1", x.at(-1, 0, 0, what), NONE);
            answers("ago MAX", x.at(MAX, 0, 0, what), NONE);
            answers("ago MIN", x.at(MIN, 0, 0, what), NONE);
            answers("no map", new SlabMap().at(0, 0, 0, what), NONE);
        }
        answers("what 4", x.at(0, 0, 10, 4), NONE);
        answers("what -1", x.at(0, 0, 10, -1), NONE);
        x = Check.mapOf("e20,0,30,7,4;e20,0,30,5,4");
        at(x, 0, 19, 63, NONE, 0, NONE, 0);
        at(x, 0, 20, 0, 0, 4, 0, 2);
        at(x, 0, 21, 0, NONE, 0, 0, 0);
        at(x, 0, 22, 1, 1, 4, 0, 1);
        at(x, 0, 29, 5, 1, 4, 0, 1);
        at(x, 0, 29, 6, 1, 4, 0, 1);
        at(x, 0, 29, 7, 0, 4, 0, 2);
    }

    private static void promise10Ago() {
        SlabMap x = Check.mapOf("e0,0,10,0,1");
        x.tell(0, 2);
        x.add(0, 5, 20, 5, 3);
        x.move(1, 0);
        x.drop(0);
        at(x, 0, 5, 7, 1, 3, 0, 1);
        at(x, 1, 5, 7, 1, 3, 0, 2);
        at(x, 2, 0, 7, 1, 3, 0, 2);
        at(x, 3, 0, 7, 0, 2, 0, 1);
        at(x, 4, 0, 7, 0, 1, 0, 1);
        at(x, 3, 15, 7, NONE, 0, NONE, 0);
        answers("ago 5", x.at(5, 0, 7, 1), NONE);
        x.undo();
        answers("one ago less", x.at(4, 0, 7, 1), NONE);
        at(x, 3, 0, 7, 0, 1, 0, 1);
        for (int i = 0; i < 50; i++) {
            x.tell(0, i % 2 == 0 ? 4 : 5);
        }
        answers("forty ago", x.at(40, 1, 3, 1), 5);
        answers("thirty-nine ago", x.at(39, 1, 3, 1), 4);
        answers("forty-one ago", x.at(41, 1, 3, 1), NONE);
    }

    private static void promise11() {
        SlabMap x = Check.mapOf(THREE);
        answers("the lowest first", x.above(20, 5, 0), 0);
        answers("then", x.above(20, 5, 1), 2);
        answers("then", x.above(20, 5, 2), 1);
        answers("no more", x.above(20, 5, 3), NONE);
        answers("an edge that the point is on is not above", x.above(20, 10, 0), 2);
        answers("higher by a part of a step", x.above(20, 29, 0), 1);
        answers("none above", x.above(20, 30, 0), NONE);
        answers("at the point from which two go", x.above(10, 20, 0), NONE);
        answers("below it", x.above(10, 19, 1), 1);
        answers("i -1", x.above(20, 20, -1), NONE);
        answers("i MIN", x.above(20, 5, MIN), NONE);
        answers("i MAX", x.above(20, 20, MAX), NONE);
        answers("in no slab", x.above(40, 0, 0), NONE);
        answers("x -1", x.above(-1, 0, 0), NONE);
        answers("x 64", x.above(64, 0, 0), NONE);
        answers("y -1", x.above(20, -1, 0), NONE);
        answers("y 64", x.above(20, 64, 0), NONE);
        answers("y MIN", x.above(20, MIN, 0), NONE);
        answers("no map", new SlabMap().above(0, 0, 0), NONE);
    }

    private static void way(SlabMap x, int a, int b, int c, int d, int... due) {
        String call = "way(" + a + ", " + b + ", " + c + ", " + d + ", ";
        answers(call + "-1)", x.way(a, b, c, d, NONE), due.length);
        answers("back, " + call + "-1)", x.way(c, d, a, b, NONE), due.length);
        for (int i = 0; i < due.length; i++) {
            answers(call + i + ")", x.way(a, b, c, d, i), due[i]);
        }
        answers(call + due.length + ")", x.way(a, b, c, d, due.length), NONE);
    }

    private static void promise12() {
        SlabMap x = Check.mapOf("e10,20,30,20,1;e10,20,30,40,2;e40,0,50,10,3;e0,60,63,60,4");
        way(x, 20, 0, 20, 63, 0, 1, 3);
        way(x, 20, 20, 20, 63, 1, 3);
        way(x, 20, 0, 20, 20);
        way(x, 20, 0, 20, 21, 0);
        way(x, 10, 0, 10, 59);
        way(x, 30, 0, 30, 63, 3);
        way(x, 31, 0, 31, 63, 3);
        way(x, 0, 20, 63, 20, 0);
        way(x, 9, 20, 11, 20, 0);
        way(x, 0, 10, 20, 30, 1);
        way(x, 5, 25, 15, 15);
        // along an edge on its own line
        x = Check.mapOf("e10,20,30,20,1;e40,0,50,10,3");
        way(x, 0, 20, 63, 20, 0);
        way(x, 15, 20, 20, 20, 0);
        way(x, 10, 20, 30, 20, 0);
        way(x, 0, 20, 10, 20);
        way(x, 0, 20, 11, 20, 0);
        way(x, 30, 20, 63, 20);
        way(x, 0, 21, 63, 21);
        way(x, 45, 5, 63, 23, 1);
        way(x, 40, 0, 45, 5, 1);
        way(x, 50, 10, 60, 20);
        way(x, 20, 20, 20, 20);
        way(x, 44, 5, 46, 5, 1);
        way(x, 45, 5, 46, 0);
        answers("i -2", x.way(20, 0, 20, 63, -2), NONE);
        answers("i MIN", x.way(20, 0, 20, 63, MIN), NONE);
        answers("i MAX", x.way(20, 0, 20, 63, MAX), NONE);
        for (int no : new int[] {-1, 64, MIN, MAX}) {
            answers("x " + no, x.way(no, 0, 0, 0, NONE), NONE);
            answers("y " + no, x.way(0, no, 0, 0, NONE), NONE);
            answers("to x " + no, x.way(0, 0, no, 0, NONE), NONE);
            answers("to y " + no, x.way(0, 0, 0, no, NONE), NONE);
        }
        for (int i = -2; i < 2; i++) {
            answers("no map, i " + i, new SlabMap().way(0, 0, 0, 0, i), NONE);
            answers("no map, i " + i, new SlabMap().way(5, 0, 5, 63, i), NONE);
        }
        SlabMap none = new SlabMap();
        none.text(0);
        answers("a fault makes no map", none.way(0, 0, 9, 9, NONE), NONE);
        answers("a map without an edge", Check.mapOf("e1,1,1,1,1").way(0, 0, 9, 9, NONE), 0);
        answers("a map without an edge", Check.mapOf("e1,1,1,1,1").way(0, 0, 9, 9, 0), NONE);
        x.drop(0);
        x.drop(1);
        answers("all edges gone", x.way(0, 20, 63, 20, NONE), 0);
    }

    private static void promise13() {
        SlabMap x = Check.mapOf(THREE);
        int[] due = {1936, 1280, 690, 190, 0, 0, 0, 0, 0, 0};
        for (int region = 0; region < 10; region++) {
            answers("points(0, " + region + ")", x.points(0, region), due[region]);
        }
        x.tell(0, 9);
        x.add(0, 0, 63, 0, 4);
        answers("ten rows of forty, all of 23 columns", x.points(0, 4), 10 * 40 + 23 * 64);
        answers("the last column is in no slab", x.points(0, 0), 64);
        answers("ahead of the latest", x.points(1, 4), 0);
        answers("ahead of the latest", x.points(1, 9), 1280);
        answers("ahead of both", x.points(2, 1), 1280);
        answers("ahead of both", x.points(2, 9), 0);
        answers("ago 3", x.points(3, 1), NONE);
        answers("ago -1", x.points(-1, 1), NONE);
        answers("ago MIN", x.points(MIN, 1), NONE);
        answers("region 10", x.points(0, 10), NONE);
        answers("region -1", x.points(0, -1), NONE);
        answers("region MAX", x.points(0, MAX), NONE);
        answers("no map", new SlabMap().points(0, 0), NONE);
        answers("a map without an edge", Check.mapOf("e1,1,1,1,1").points(0, 0), 4096);
        // a rising edge: in column x the points from the first that is no lower
        x = Check.mapOf("e0,0,3,2,1");
        answers("rows cut upwards", x.points(0, 1), 64 + 63 + 62);
    }

    private static void promise14() {
        SlabMap x = Check.mapOf("e0,10,20,10,1;e0,20,20,20,2;e0,30,20,30,2;e0,40,10,40,1;e20,5,30,5,7");
        answers("beside(0)", x.beside(0), 1 << 1 | 1 << 7);
        answers("beside(1)", x.beside(1), 1 | 1 << 2);
        answers("beside(2)", x.beside(2), 1 << 1);
        answers("beside(3)", x.beside(3), 0);
        answers("beside(7)", x.beside(7), 1);
        x.tell(0, 0);
        answers("none is beside itself", x.beside(0), 1 << 2 | 1 << 7);
        answers("region -1", x.beside(-1), NONE);
        answers("region 10", x.beside(10), NONE);
        answers("region MIN", x.beside(MIN), NONE);
        answers("no map", new SlabMap().beside(0), NONE);
        answers("no edge", Check.mapOf("e1,1,1,1,1").beside(0), 0);
    }

    private static void colours(String text, int many, int... due) {
        SlabMap x = Check.mapOf(text);
        answers("colours(-1) of " + text, x.colours(NONE), many);
        for (int region = 0; region < 10; region++) {
            answers("colours(" + region + ") of " + text, x.colours(region), due[region]);
        }
        answers("colours(10)", x.colours(10), NONE);
        answers("colours(-2)", x.colours(-2), NONE);
        answers("colours(MIN)", x.colours(MIN), NONE);
        answers("colours(MAX)", x.colours(MAX), NONE);
    }

    private static void promise15() {
        colours("e1,1,1,1,1", 1, 0, 0, 0, 0, 0, 0, 0, 0, 0, 0);
        colours("e0,5,9,5,0", 1, 0, 0, 0, 0, 0, 0, 0, 0, 0, 0);
        colours("e0,5,9,5,9", 2, 0, 0, 0, 0, 0, 0, 0, 0, 0, 1);
        // 0 by 2 by 3 by 1: the lowest colour for each in turn would take three
        colours("e0,5,9,5,2;e0,6,9,6,3;e0,7,9,7,1", 2, 0, 1, 1, 0, 0, 0, 0, 0, 0, 0);
        // each of 0, 1, 2 beside the others
        colours("e0,5,9,5,1;e0,6,9,6,2;e9,5,20,5,2", 3, 0, 1, 2, 0, 0, 0, 0, 0, 0, 0);
        // each of 0 to 3 beside the others; 4 beside 1 only
        colours("e0,5,9,5,1;e0,6,9,6,2;e0,7,9,7,3;e0,8,9,8,1;e0,9,9,9,4;e9,5,20,5,2;e20,5,30,5,3", 4,
                0, 1, 2, 3, 0, 0, 0, 0, 0, 0);
        answers("no map", new SlabMap().colours(NONE), NONE);
        answers("no map", new SlabMap().colours(0), NONE);
    }
}
