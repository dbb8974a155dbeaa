/** Promises 16 to 23, 33, 34, 36, 37: acts, their refusals, undoing, the log, scripts done, images. */
public final class ActsTest {
    private static final int NONE = SlabMap.NONE;
    private static final int HIDDEN = SlabMap.HIDDEN;
    private static final int MIN = Integer.MIN_VALUE;
    private static final int MAX = Integer.MAX_VALUE;

    public static void main(String[] args) {
        promise16();
        promise16Crossing();
        promise16Full();
        promise17();
        promise18();
        promise19();
        promise20();
        promise20Draws();
        promise21();
        promise22();
        promise23();
        promise23Longest();
        promise33();
        promise34();
        promise36And37();
        Check.close("ActsTest");
    }

    private static void answers(String call, int got, int due) {
        Check.same(call, got, due);
    }

    /** How many acts were refused, for each of the four reasons. */
    private static void refused(SlabMap x, String when, int... due) {
        for (int what = 0; what < 4; what++) {
            answers(when + ": status(" + what + ")", x.status(what), due[what]);
        }
    }

    private static SlabMap empty() {
        return Check.mapOf("e1,1,1,1,1");
    }

    private static String edge(SlabMap x, int edge) {
        StringBuilder told = new StringBuilder();
        for (int what = 0; what < 5; what++) {
            told.append(what == 0 ? "" : ",").append(x.edge(edge, what));
        }
        return told.toString();
    }

    private static void promise16() {
        SlabMap x = empty();
        answers("add", x.add(0, 63, 63, 0, 9), 0);
        Check.yes("as told", edge(x, 0).equals("0,63,63,0,9"));
        answers("add", x.add(0, 0, 1, 1, 0), 1);
        answers("add", x.add(1, 1, 2, 2, 3), 2);
        x.drop(1);
        x.drop(0);
        answers("the lowest number that none has", x.add(5, 5, 9, 9, 4), 0);
        answers("and the next", x.add(9, 9, 10, 5, 4), 1);
        refused(x, "none", 0, 0, 0, 0);
        int[][] out = {{-1, 0, 1, 1, 1}, {0, -1, 1, 1, 1}, {0, 0, 64, 1, 1}, {0, 0, 1, 64, 1}, {0, 0, 1, 1, 10},
            {0, 0, 1, 1, -1}, {64, 0, 1, 1, 1}, {0, 64, 1, 1, 1}, {0, 0, -1, 1, 1}, {0, 0, 1, -1, 1},
            {MIN, MIN, MAX, MAX, MIN}};
        for (int[] n : out) {
            answers("out of bounds", x.add(n[0], n[1], n[2], n[3], n[4]), NONE);
        }
        refused(x, "out of bounds", 0, 11, 0, 0);
        answers("not to the right", x.add(40, 5, 40, 9, 1), NONE);
        answers("to the left, across an edge", x.add(9, 5, 5, 9, 1), NONE);
        refused(x, "not to the right", 0, 11, 2, 0);
        answers("across", x.add(5, 9, 9, 5, 1), NONE);
        refused(x, "across", 0, 11, 2, 1);
        answers("nothing changed", x.count(0) * 100 + x.count(4), 307);
        SlabMap none = new SlabMap();
        answers("no map", none.add(0, 0, 1, 1, 1), NONE);
        answers("no map comes first", none.add(-1, 0, 1, 1, 1), NONE);
        refused(none, "no map", 2, 0, 0, 0);
    }

    private static void promise16Crossing() {
        int[][] crossing = {{10, 10, 30, 10}, {15, 10, 20, 10}, {0, 10, 63, 10}, {0, 10, 11, 10}, {29, 10, 63, 10},
            {0, 0, 40, 20}, {11, 9, 12, 11}, {28, 63, 29, 0}, {0, 9, 40, 11}};
        int[][] clear = {{0, 10, 10, 10}, {30, 10, 63, 10}, {0, 0, 10, 10}, {10, 10, 30, 11}, {10, 9, 30, 10},
            {15, 10, 20, 20}, {0, 0, 20, 10}, {0, 9, 63, 9}, {0, 20, 30, 10}, {20, 10, 21, 9}, {0, 11, 63, 10},
            {0, 12, 5, 8}, {0, 9, 63, 11}};
        for (int[] n : crossing) {
            SlabMap x = Check.mapOf("e10,10,30,10,1");
            answers("crossing", x.add(n[0], n[1], n[2], n[3], 2), NONE);
            refused(x, "crossing", 0, 0, 0, 1);
        }
        for (int[] n : clear) {
            SlabMap x = Check.mapOf("e10,10,30,10,1");
            answers("clear: " + n[0] + "," + n[1] + "," + n[2] + "," + n[3], x.add(n[0], n[1], n[2], n[3], 2), 1);
        }
        // the three of a fan end in one point inside of a fourth
        SlabMap x = Check.mapOf("e0,20,40,20,1");
        answers("to the inside of an edge", x.add(0, 0, 20, 20, 2), 1);
        answers("from there on", x.add(20, 20, 40, 40, 2), 2);
        answers("through it", x.add(10, 0, 30, 40, 2), NONE);
        answers("on one line with two", x.add(0, 0, 40, 40, 2), NONE);
    }

    private static void promise16Full() {
        SlabMap x = empty();
        for (int y = 0; y < 24; y++) {
            answers("add", x.add(0, y, 63, y, 1), y);
        }
        answers("there are 24", x.add(0, 40, 63, 40, 1), NONE);
        refused(x, "there are 24", 0, 0, 0, 1);
        answers("not to the right comes first", x.add(5, 40, 5, 40, 1), NONE);
        answers("out of bounds comes first", x.add(0, 40, 63, 40, 10), NONE);
        refused(x, "of several the first", 0, 1, 1, 1);
        x.drop(17);
        answers("room again", x.add(0, 40, 63, 40, 1), 17);
    }

    private static void promise17() {
        SlabMap x = Check.mapOf("e0,0,9,0,5;e0,9,9,9,0");
        answers("drop(0)", x.drop(0), 5);
        answers("drop(1)", x.drop(1), 0);
        for (int no : new int[] {0, 1, 2, 23, 24, -1, MIN, MAX}) {
            answers("drop(" + no + ")", x.drop(no), NONE);
        }
        refused(x, "no such edge", 8, 0, 0, 0);
        answers("two acts", x.count(4), 2);
        answers("no edge", x.count(0), 0);
        answers("no map", new SlabMap().drop(0), NONE);
    }

    private static void promise18() {
        SlabMap x = Check.mapOf("e0,0,9,0,5;e0,9,9,9,0");
        answers("tell(0, 9)", x.tell(0, 9), 5);
        answers("tell(0, 0)", x.tell(0, 0), 9);
        answers("it is told", x.edge(0, 4), 0);
        answers("it is so", x.tell(0, 0), NONE);
        refused(x, "it is so", 0, 0, 1, 0);
        for (int no : new int[] {10, -1, MIN, MAX}) {
            answers("tell(0, " + no + ")", x.tell(0, no), NONE);
        }
        refused(x, "out of bounds", 0, 4, 1, 0);
        for (int no : new int[] {2, 24, -1, MIN, MAX}) {
            answers("tell(" + no + ", 1)", x.tell(no, 1), NONE);
        }
        answers("no such edge comes first", x.tell(2, 10), NONE);
        refused(x, "no such edge", 6, 4, 1, 0);
        answers("two acts", x.count(4), 2);
        answers("no map", new SlabMap().tell(0, 1), NONE);
    }

    private static void promise19() {
        SlabMap x = Check.mapOf("e10,20,53,30,1;e20,0,30,10,2");
        answers("move", x.move(-10, 33), 2);
        Check.yes("edge 0", edge(x, 0).equals("0,53,43,63,1"));
        Check.yes("edge 1", edge(x, 1).equals("10,33,20,43,2"));
        answers("move", x.move(20, -33), 2);
        answers("to the right", x.move(1, 0), NONE);
        answers("down", x.move(0, -1), NONE);
        refused(x, "outside", 0, 0, 0, 2);
        answers("to the left", x.move(-21, 0), NONE);
        answers("up", x.move(0, 34), NONE);
        answers("the farthest", x.move(63, 63), NONE);
        answers("the farthest", x.move(-63, -63), NONE);
        refused(x, "outside", 0, 0, 0, 6);
        for (int no : new int[] {64, -64, MIN, MAX}) {
            answers("x " + no, x.move(no, 0), NONE);
            answers("y " + no, x.move(0, no), NONE);
        }
        refused(x, "out of bounds", 0, 8, 0, 6);
        answers("by nothing", x.move(0, 0), NONE);
        refused(x, "by nothing", 0, 8, 1, 6);
        answers("by x alone", x.move(-20, 0), 2);
        answers("by y alone", x.move(0, 10), 2);
        Check.yes("edge 1", edge(x, 1).equals("10,10,20,20,2"));
        answers("no edge to be outside", empty().move(63, -63), 0);
        SlabMap none = new SlabMap();
        answers("no map", none.move(1, 1), NONE);
        answers("no map comes first", none.move(0, 64), NONE);
        refused(none, "no map", 2, 0, 0, 0);
    }

    private static void promise20() {
        for (int no : new int[] {0, -1, 41, MIN, MAX}) {
            answers("ways(" + no + ")", empty().ways(no, 1), NONE);
        }
        answers("no map", new SlabMap().ways(1, 1), NONE);
        SlabMap x = empty();
        x.ways(0, 1);
        x.ways(41, 1);
        // seed 2 draws: d18; a24,7,11,60,8; a26,39,18,50,4; a58,42,45,14,5; a38,44,26,45,6; m-1,4 (outside)
        answers("slabs", x.ways(6, 2), 6);
        refused(x, "what can't be is left", 0, 0, 0, 0);
        answers("four acts", x.count(4), 4);
        Check.yes("the lesser X first", edge(x, 0).equals("11,60,24,7,8"));
        Check.yes("edge 1", edge(x, 1).equals("18,50,26,39,4"));
        Check.yes("edge 2", edge(x, 2).equals("45,14,58,42,5"));
        Check.yes("edge 3", edge(x, 3).equals("26,45,38,44,6"));
        answers("the log", x.log(0, 1), 3);
        answers("the log", x.log(1, 2), 5);
        answers("one undone", x.undo(), 3);
        answers("the fourth is gone", x.count(0), 3);
        answers("a seed begins anew", empty().ways(40, 2) - empty().ways(40, 2), 0);
    }

    private static void promise20Draws() {
        SlabMap x = Check.mapOf("e5,5,9,5,1;e5,6,9,6,2");
        answers("seed 8 draws d0", x.ways(1, 8), 1);
        answers("gone", x.log(0, 0) * 10 + x.log(0, 1), 10);
        answers("seed 25 draws r1,5", x.ways(1, 25), 1);
        answers("told", x.log(0, 0) * 10 + x.log(0, 1), 21);
        answers("the region", x.edge(1, 4), 5);
        answers("seed 0 draws m-1,3", x.ways(1, 0), 1);
        answers("moved", x.log(0, 0), 3);
        answers("by X", x.log(0, 1), -1);
        Check.yes("moved by both", edge(x, 1).equals("4,9,8,9,5"));
        answers("seed 521 draws m0,0", x.ways(1, 521), 1);
        answers("seed 311 draws an edge from X 48 to X 48", x.ways(1, 311), 1);
        answers("seed 4 draws a12,62,59,33,7", x.ways(1, 4), 3);
        Check.yes("added", edge(x, 0).equals("12,62,59,33,7"));
        answers("four acts", x.count(4), 4);
        answers("a seed below 0: r19,9; a11,35,12,25,9", empty().ways(2, -5), 1);
        answers("the highest bit: m4,-1 (of no edge); d13; a56,7,32,27,5", empty().ways(3, 1L << 62), 1);
        refused(x, "no status", 0, 0, 0, 0);
    }

    private static void promise21() {
        SlabMap x = empty();
        x.drop(0);
        x.add(0, 0, 64, 0, 1);
        x.move(0, 0);
        x.move(0, 0);
        x.add(0, 0, 9, 9, 1);
        x.add(0, 9, 9, 0, 1);
        x.add(0, 9, 9, 0, 1);
        x.add(0, 9, 9, 0, 1);
        refused(x, "counted", 1, 1, 2, 3);
        x.undo();
        refused(x, "not undone", 1, 1, 2, 3);
        x.image();
        x.tell(5, 5);
        x.back();
        refused(x, "no part of an image", 2, 1, 2, 3);
        x.undo();
        x.would(0, 0, 64, 0, 1, -1);
        x.blocks(9, 9, 0, 0);
        x.ways(0, 0);
        x.end(9);
        x.perform(0);
        refused(x, "what is no act is not counted", 2, 1, 2, 3);
        for (int no : new int[] {4, -1, MIN, MAX}) {
            answers("status(" + no + ")", x.status(no), NONE);
        }
    }

    private static void promise22() {
        SlabMap x = Check.mapOf("e10,10,20,20,1");
        answers("none", x.undo(), NONE);
        x.tell(0, 2);
        x.add(20, 20, 30, 30, 3);
        x.move(-5, 5);
        x.drop(0);
        answers("gone undone", x.undo(), 3);
        Check.yes("it is back", edge(x, 0).equals("5,15,15,25,2"));
        answers("moved undone", x.undo(), 2);
        Check.yes("it is back", edge(x, 1).equals("20,20,30,30,3"));
        answers("added undone", x.undo(), 1);
        Check.noEdge(x, 1, 0);
        answers("slabs", x.rule(1), 1);
        answers("told undone", x.undo(), 0);
        answers("as at first", x.edge(0, 4), 1);
        answers("none is left", x.undo(), NONE);
        for (int i = 0; i < 45; i++) {
            x.tell(0, (i + 2) % 10);
        }
        answers("forty at most", x.count(4), 40);
        for (int i = 39; i >= 0; i--) {
            answers("one by one", x.undo(), i);
        }
        answers("no more than forty", x.undo(), NONE);
        answers("five acts stand", x.edge(0, 4), 6);
        answers("an act behind one undone", x.tell(0, 7), 6);
        answers("can be undone", x.undo(), 0);
        answers("refused acts can't be undone", x.tell(0, 6) + x.undo(), NONE + NONE);
    }

    private static void log(SlabMap x, int i, int sort, int number, int slabs) {
        answers("log(" + i + ", 0)", x.log(i, 0), sort);
        answers("log(" + i + ", 1)", x.log(i, 1), number);
        answers("log(" + i + ", 2)", x.log(i, 2), slabs);
    }

    private static void promise23() {
        SlabMap x = Check.mapOf("e10,10,20,20,1");
        answers("none", x.log(0, 0), HIDDEN);
        x.add(20, 20, 30, 30, 3);
        x.tell(1, 2);
        x.move(-7, 5);
        x.move(0, 1);
        x.drop(1);
        x.drop(0);
        log(x, 0, 1, 0, 0);
        log(x, 1, 1, 1, 1);
        log(x, 2, 3, 0, 2);
        log(x, 3, 3, -7, 2);
        log(x, 4, 2, 1, 2);
        log(x, 5, 0, 1, 2);
        for (int no : new int[] {6, -1, 60, MIN, MAX}) {
            answers("log(" + no + ", 0)", x.log(no, 0), HIDDEN);
        }
        for (int no : new int[] {3, -1, MIN, MAX}) {
            answers("log(0, " + no + ")", x.log(0, no), HIDDEN);
        }
        x.undo();
        x.undo();
        log(x, 0, 3, 0, 2);
        answers("the log is undone, too", x.count(3), 4);
        answers("and no longer", x.log(4, 0), HIDDEN);
        x.tell(0, 9);
        log(x, 0, 2, 0, 2);
        log(x, 1, 3, 0, 2);
        x.tell(0, 9);
        answers("refused acts are not in it", x.count(3), 5);
    }

    private static void promise23Longest() {
        SlabMap x = Check.mapOf("e10,10,20,20,1");
        for (int i = 0; i < 70; i++) {
            x.move(i % 2 == 0 ? i % 10 + 1 : -(i - 1) % 10 - 1, i % 2 == 0 ? 1 : -1);
        }
        answers("sixty at most", x.count(3), 60);
        answers("the oldest: the eleventh", x.log(59, 1), 1);
        answers("the one behind it", x.log(58, 1), -1);
        answers("no older", x.log(60, 1), HIDDEN);
        for (int i = 0; i < 40; i++) {
            x.undo();
        }
        answers("as it was behind thirty acts", x.count(3), 30);
        log(x, 0, 3, -9, 1);
        log(x, 29, 3, 1, 1);
        for (int i = 0; i < 80; i++) {
            x.tell(0, 2 + i % 2);
        }
        log(x, 59, 2, 0, 1);
        for (int i = 0; i < 40; i++) {
            x.undo();
        }
        answers("older ones come to light again", x.count(3), 60);
        log(x, 39, 2, 0, 1);
        log(x, 40, 3, -9, 1);
        log(x, 59, 3, 1, 1);
        log(x, 57, 3, 3, 1);
    }

    private static void promise33() {
        SlabMap x = Check.mapOf("e10,10,20,20,1");
        Check.script(x, "a20,20,30,30,2;r0,5;m-10,0;d0;d1");
        Check.script(x, "a20,20,30,30,2;r1,2;d0");
        Check.script(x, "d5;d0");
        Check.script(x, "m63,0;d0");
        answers("all can be", x.run(0, 0), NONE);
        answers("no slab behind these", x.run(0, 1), 0);
        answers("the second is so already", x.run(1, 0), 1);
        answers("two slabs behind the first", x.run(1, 1), 2);
        answers("the first can't be", x.run(2, 0), 0);
        answers("as it is", x.run(2, 1), 1);
        answers("outside", x.run(3, 0), 0);
        for (int no : new int[] {4, -1, MIN, MAX}) {
            answers("run(" + no + ", 0)", x.run(no, 0), HIDDEN);
            answers("run(0, " + no + ")", x.run(0, no), HIDDEN);
        }
        answers("run(0, 2)", x.run(0, 2), HIDDEN);
        answers("nothing is done", x.count(4) + x.count(3), 0);
        answers("nothing is done", x.edge(0, 4), 1);
        refused(x, "nothing is refused", 0, 0, 0, 0);
    }

    private static void promise34() {
        SlabMap x = Check.mapOf("e10,10,20,20,1");
        Check.script(x, "a20,20,30,30,2;r0,5;m-10,0;d0");
        Check.script(x, "r1,7;a20,30,10,20,2;d1");
        Check.script(x, "d9");
        answers("all four", x.perform(0), 4);
        Check.yes("edge 1", edge(x, 1).equals("10,20,20,30,2"));
        Check.noEdge(x, 0, 0);
        answers("four acts", x.count(4), 4);
        log(x, 0, 1, 0, 1);
        log(x, 1, 3, -10, 2);
        log(x, 2, 2, 0, 2);
        log(x, 3, 0, 1, 2);
        answers("up to the one that is not to the right", x.perform(1), 1);
        answers("it is told", x.edge(1, 4), 7);
        answers("the first can't be", x.perform(2), 0);
        answers("five acts", x.count(4), 5);
        refused(x, "no status", 0, 0, 0, 0);
        answers("undone", x.undo(), 4);
        answers("undone", x.edge(1, 4), 2);
        for (int no : new int[] {3, 4, -1, MIN, MAX}) {
            answers("perform(" + no + ")", x.perform(no), NONE);
        }
        SlabMap none = new SlabMap();
        Check.script(none, "a0,0,1,1,1");
        answers("no map", none.perform(0), NONE);
        SlabMap small = empty();
        Check.script(small, "a0,0,1,1,1;a0,1,1,0,1;a0,5,1,5,1");
        answers("up to the one that crosses", small.perform(0), 1);
        Check.same("there are 24", full().perform(0), 1);
    }

    private static SlabMap full() {
        SlabMap x = empty();
        for (int y = 0; y < 23; y++) {
            x.add(0, y, 63, y, 1);
        }
        Check.script(x, "a0,40,63,40,1;a0,41,63,41,1");
        return x;
    }

    private static void promise36And37() {
        SlabMap none = new SlabMap();
        answers("no map", none.image(), NONE);
        answers("no image", none.back(), NONE);
        SlabMap x = Check.mapOf("e10,10,20,20,1");
        answers("no image", x.back(), NONE);
        x.add(20, 20, 30, 30, 2);
        answers("image", x.image(), 2);
        answers("an image is no act", x.count(4), 1);
        x.tell(0, 9);
        x.drop(1);
        x.move(1, 1);
        answers("back", x.back(), 2);
        Check.yes("edge 0", edge(x, 0).equals("10,10,20,20,1"));
        Check.yes("edge 1", edge(x, 1).equals("20,20,30,30,2"));
        answers("no act can be undone", x.count(4), 0);
        answers("undo", x.undo(), NONE);
        answers("the log as it was", x.count(3), 1);
        log(x, 0, 0, 1, 2);
        answers("no ago", x.points(1, 1), NONE);
        x.drop(0);
        x.drop(1);
        answers("back once more", x.back(), 2);
        answers("two edges", x.count(0), 2);
        x.drop(0);
        answers("another image", x.image(), 1);
        x.drop(1);
        answers("back to it", x.back(), 1);
        Check.noEdge(x, 0, 0);
        answers("the log with it", x.count(3), 2);
        x.tell(1, 4);
        answers("acts behind it can be undone", x.undo(), 0);
        answers("to the image", x.edge(1, 4), 2);
        Check.script(x, "d1");
        x.perform(0);
        x.image();
        answers("an image without a slab", x.back(), 0);
        SlabMap old = Check.mapOf("e10,10,20,20,1");
        for (int i = 0; i < 130; i++) {
            old.tell(0, i % 9 == 0 && i > 0 ? 1 : 2 + i % 7);
            if (i == 99) {
                old.image();
            }
        }
        int kept = old.back();
        answers("slabs", kept, 1);
        answers("sixty of the log", old.count(3), 60);
        answers("the oldest of them", old.log(59, 0), 2);
    }
}
