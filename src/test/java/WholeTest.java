/** Promises 24 to 30, 35, 38: what is told of the whole map. */
public final class WholeTest {
    private static final int NONE = SlabMap.NONE;
    private static final int HIDDEN = SlabMap.HIDDEN;
    private static final int MIN = Integer.MIN_VALUE;
    private static final int MAX = Integer.MAX_VALUE;
    private static final String THREE = "e0,10,40,10,1;e10,20,30,40,2;e10,20,30,20,3";

    public static void main(String[] args) {
        promise24();
        promise25();
        promise26();
        promise27();
        promise28();
        promise29();
        promise30();
        promise35();
        promise35Most();
        promise38();
        longestLists();
        mostSlabs();
        Check.close("WholeTest");
    }

    private static void answers(String call, int got, int due) {
        Check.same(call, got, due);
    }

    private static SlabMap empty() {
        return Check.mapOf("e1,1,1,1,1");
    }

    private static void promise24() {
        answers("no map", new SlabMap().idle(), NONE);
        answers("no edge", empty().idle(), 0);
        answers("each parts", Check.mapOf(THREE).idle(), 0);
        SlabMap x = Check.mapOf("e0,10,20,10,1;e0,20,10,20,1;e10,20,20,20,2;e0,5,5,5,0");
        answers("idle", x.idle(), 1 << 1 | 1 << 3);
        x.tell(2, 1);
        answers("one more", x.idle(), 1 << 1 | 1 << 2 | 1 << 3);
        x.tell(3, 1);
        answers("one that parts in one list of two is not", x.idle(), 1 << 1 | 1 << 2);
        x.tell(0, 0);
        answers("0 below the lowest", x.idle(), 0);
        StringBuilder rows = new StringBuilder("e0,0,1,0,1");
        for (int y = 1; y < 24; y++) {
            rows.append(";e0,").append(y).append(",1,").append(y).append(",1");
        }
        answers("all but the lowest", Check.mapOf(rows.toString()).idle(), (1 << 24) - 2);
    }

    private static void promise25() {
        answers("no map", new SlabMap().ends(NONE), NONE);
        answers("no map", new SlabMap().ends(0), NONE);
        answers("no edge", empty().ends(NONE), 0);
        answers("no edge", empty().ends(0), 0);
        answers("three", Check.mapOf(THREE).ends(NONE), 4);
        // lists 0 1 2 and 3 1 2: ends 2, 1 2, 0 1 2, 3 1 2
        SlabMap x = Check.mapOf("e0,10,10,10,1;e0,20,20,20,2;e0,30,20,30,3;e10,5,20,5,4");
        answers("shared", x.ends(NONE), 4);
        answers("now", x.ends(0), 4);
        x.drop(3);
        answers("behind a drop", x.ends(NONE), 3);
        answers("all there were ahead of it", x.ends(1), 3);
        x.tell(0, 9);
        answers("regions are not looked at", x.ends(1), 3);
        x.undo();
        x.undo();
        x.drop(2);
        answers("without the highest", x.ends(NONE), 3);
        answers("none there was", x.ends(1), 0);
        x.undo();
        x.add(0, 25, 10, 25, 7);
        // lists 0 1 4 2 and 3 1 2
        answers("two lists less alike", x.ends(NONE), 6);
        answers("2, 1 2, 3 1 2 there were", x.ends(1), 3);
        x.move(30, 30);
        answers("moved", x.ends(1), 6);
        answers("two acts ago", x.ends(2), 3);
        answers("ago 3", x.ends(3), NONE);
        answers("ago -2", x.ends(-2), NONE);
        answers("ago MIN", x.ends(MIN), NONE);
        answers("ago MAX", x.ends(MAX), NONE);
    }

    private static void promise26() {
        answers("no map", new SlabMap().like(0, 0), NONE);
        SlabMap x = Check.mapOf("e0,0,5,0,1;e10,0,15,0,2");
        answers("now", x.like(0, 0), 4096);
        answers("now", x.like(0, 1), 3);
        x.add(20, 60, 30, 60, 3);
        answers("ten columns, four rows", x.like(1, 0), 4096 - 40);
        // lists 0, none, 1, none, 2
        answers("those without an edge there were, too", x.like(1, 1), 4);
        x.tell(0, 2);
        answers("five columns more", x.like(2, 0), 4096 - 40 - 5 * 64);
        answers("and these alone", x.like(1, 0), 4096 - 5 * 64);
        answers("lists are of edges, not regions", x.like(1, 1), 5);
        x.drop(1);
        // lists 0, none, 2; they were 0, none, 1, none, 2
        answers("gone", x.like(1, 1), 3);
        answers("gone", x.like(3, 1), 2);
        answers("what 2", x.like(0, 2), NONE);
        answers("what -1", x.like(0, -1), NONE);
        answers("ago 4", x.like(4, 0), NONE);
        answers("ago -1", x.like(-1, 0), NONE);
        answers("ago MAX", x.like(MAX, 1), NONE);
        answers("ago MIN", x.like(MIN, 1), NONE);
        x = Check.mapOf("e0,10,10,10,1;e0,20,10,20,2");
        x.tell(1, 1);
        x.add(0, 5, 10, 5, 1);
        answers("44 rows of two, 5 rows of one", x.like(2, 0), 4096 - 10 * 44 - 10 * 5);
        answers("the rows of a list are of the same length", x.like(1, 1), 0);
    }

    private static void promise27() {
        answers("no map", new SlabMap().stairs(0), NONE);
        answers("no map", new SlabMap().stairs(1), NONE);
        answers("no slab", empty().stairs(0), NONE);
        answers("no slab", empty().stairs(1), NONE);
        SlabMap x = Check.mapOf("e0,0,10,0,1;e10,0,30,0,1;e30,0,50,0,1;e30,5,35,5,2;e45,5,50,5,2");
        answers("the longest of several: the lowest", x.stairs(0), 2);
        answers("the widest of several: the lowest", x.stairs(1), 1);
        x.drop(3);
        answers("the longest", x.stairs(0), 3);
        x.drop(1);
        answers("the widest has no edge", x.stairs(1), 1);
        x.drop(0);
        answers("the widest", x.stairs(1), 0);
        answers("what 2", x.stairs(2), NONE);
        answers("what -1", x.stairs(-1), NONE);
        answers("what MIN", x.stairs(MIN), NONE);
    }

    private static void promise28() {
        SlabMap x = Check.mapOf(THREE);
        answers("slabs", x.would(0, 0, 40, 5, 4, -1), 3);
        answers("slabs", x.would(5, 0, 41, 5, 4, -1), 5);
        answers("ends", x.would(0, 0, 40, 5, 4, -2), 6);
        answers("points", x.would(0, 0, 40, 5, 4, 4), 285);
        answers("points of another", x.would(0, 0, 40, 5, 4, 1), 1280);
        answers("points of none", x.would(0, 0, 40, 5, 4, 9), 0);
        answers("points of 0", x.would(0, 0, 63, 0, 4, 0), 64);
        answers("what 10", x.would(0, 0, 40, 5, 4, 10), NONE);
        answers("what -3", x.would(0, 0, 40, 5, 4, -3), NONE);
        answers("what MIN", x.would(0, 0, 40, 5, 4, MIN), NONE);
        answers("across", x.would(0, 0, 40, 20, 4, -1), NONE);
        answers("not to the right", x.would(5, 0, 5, 5, 4, -1), NONE);
        answers("out of bounds", x.would(0, 0, 64, 5, 4, -1), NONE);
        answers("region 10", x.would(0, 0, 40, 5, 10, -1), NONE);
        answers("nothing is done", x.count(0) * 10 + x.count(4), 30);
        answers("nothing is refused", x.status(1) + x.status(2) + x.status(3), 0);
        answers("no map", new SlabMap().would(0, 0, 1, 1, 1, -1), NONE);
        answers("no map", new SlabMap().would(0, 0, 1, 1, 1, 0), NONE);
        SlabMap full = empty();
        for (int y = 0; y < 24; y++) {
            full.add(0, y, 63, y, 1);
        }
        answers("there are 24", full.would(0, 40, 63, 40, 1, -1), NONE);
        full.drop(5);
        answers("the number that it would have: ends", full.would(0, 40, 63, 40, 1, -2), 24);
    }

    private static void promise29() {
        SlabMap x = Check.mapOf(THREE);
        answers("of several the lowest", x.blocks(20, 0, 21, 63), 0);
        answers("the rising one", x.blocks(20, 21, 21, 63), 1);
        answers("the level one", x.blocks(20, 11, 21, 21), 2);
        answers("none", x.blocks(0, 5, 40, 5), NONE);
        answers("on it", x.blocks(12, 10, 13, 10), 0);
        answers("at an end", x.blocks(0, 20, 10, 20), NONE);
        answers("not to the right", x.blocks(20, 0, 20, 63), NONE);
        answers("to the left", x.blocks(21, 63, 20, 0), NONE);
        for (int no : new int[] {-1, 64, MIN, MAX}) {
            answers("x " + no, x.blocks(no, 0, 21, 63), NONE);
            answers("y " + no, x.blocks(20, no, 21, 63), NONE);
            answers("to x " + no, x.blocks(20, 0, no, 63), NONE);
            answers("to y " + no, x.blocks(20, 0, 21, no), NONE);
        }
        answers("no map", new SlabMap().blocks(20, 0, 21, 63), NONE);
        x.drop(0);
        answers("the lowest there is", x.blocks(20, 0, 21, 63), 1);
    }

    private static void promise30() {
        SlabMap x = Check.mapOf(THREE);
        answers("over the level one", x.near(20, 28), 8);
        answers("on it", x.near(20, 20), 0);
        answers("over the rising one", x.near(20, 40), 10);
        answers("below all", x.near(20, 5), NONE);
        answers("in no slab", x.near(40, 50), NONE);
        for (int no : new int[] {-1, 64, MIN, MAX}) {
            answers("x " + no, x.near(no, 0), NONE);
            answers("y " + no, x.near(20, no), NONE);
        }
        answers("no map", new SlabMap().near(0, 0), NONE);
        x = Check.mapOf("e0,0,3,2,1;e10,10,13,8,2");
        answers("two thirds: cut", x.near(1, 1), 0);
        answers("one and two thirds: cut", x.near(1, 2), 1);
        answers("one and a third: cut", x.near(2, 3), 1);
        answers("falling, two thirds: cut", x.near(12, 9), 0);
        answers("falling, one and two thirds: cut", x.near(12, 10), 1);
        answers("falling, a third: cut", x.near(11, 10), 0);
    }

    private static void all(SlabMap x, int... due) {
        for (int what = 0; what < 6; what++) {
            answers("all(" + what + ")", x.all(what), due[what]);
        }
        for (int no : new int[] {6, -1, MIN, MAX}) {
            answers("all(" + no + ")", x.all(no), HIDDEN);
        }
    }

    private static void promise35() {
        for (int what = -1; what < 7; what++) {
            answers("no map", new SlabMap().all(what), HIDDEN);
        }
        all(empty(), 0, 1, 0, NONE, NONE, 0);
        all(Check.mapOf(THREE), 5, 15, 3, 1, 0, 5);
        SlabMap x = Check.mapOf("e0,0,63,0,3");
        all(x, 1, 1 | 1 << 3, 1, 3, 0, 2);
        x.add(0, 32, 63, 32, 2);
        all(x, 2, 1 | 1 << 2 | 1 << 3, 2, 2, 0, 4);
        x.add(0, 0, 63, 32, 4);
        all(x, 3, 29, 3, 2, 0, 4);
    }

    private static void promise35Most() {
        // 4 and 2 have as many points
        SlabMap x = Check.mapOf("e0,0,10,0,4;e20,0,30,0,2");
        answers("of several the lowest", x.all(3), 2);
        answers("of several the lowest", x.all(4), 0);
        x.add(30, 0, 41, 0, 4);
        answers("the most", x.all(3), 4);
        answers("the longest", x.all(4), 2);
        x.drop(0);
        x.add(50, 0, 61, 0, 1);
        answers("the longest of several", x.all(4), 0);
        answers("an end in common counts once", x.all(5), 5);
        x = Check.mapOf("e0,0,10,0,0");
        answers("region 0 alone", x.all(3), NONE);
        answers("region 0 alone", x.all(1), 1);
        answers("an end of the one where the other begins, one over the other",
                Check.mapOf("e0,0,10,0,0;e10,0,20,0,1;e10,1,20,0,2").all(5), 4);
        // a region that no point is in: between two edges that are less than a step apart
        x = Check.mapOf("e0,0,2,1,1;e0,0,2,0,2");
        answers("columns 0 and 1", x.points(0, 2), 1);
        x = Check.mapOf("e0,0,1,1,1;e0,0,1,0,2");
        answers("no point", x.points(0, 2), 0);
        answers("regions with a point", x.all(1), 3);
        answers("couples are all the same", x.all(2), 2);
        x = Check.mapOf("e0,63,1,63,5");
        answers("a region of one point", x.all(1), 1 | 1 << 5);
        answers("the most of all, though one", x.all(3), 5);
    }

    /** All 24 edges in one list. */
    private static void longestLists() {
        SlabMap x = empty();
        for (int y = 0; y < 24; y++) {
            x.add(0, 2 * y, 63, 2 * y, y % 9 + 1);
        }
        answers("one slab", x.rule(1), 1);
        answers("its list", x.slab(0, 2), 24);
        answers("the highest", x.list(0, 23), 23);
        answers("no higher one", x.list(0, 24), NONE);
        answers("on top of all", x.at(0, 62, 63, 3), 24);
        answers("on top of the highest", x.at(0, 0, 46, 0), 23);
        answers("the last above", x.above(5, 0, 22), 23);
        answers("no more above", x.above(5, 0, 23), NONE);
        answers("a way through all but the ends of it", x.way(7, 0, 7, 46, NONE), 22);
        answers("two edges of two rows each, one of the rest", x.points(0, 6), 63 * (2 + 2 + 18));
        answers("the column in no slab", x.points(0, 0), 64);
        answers("ends", x.ends(NONE), 24);
        x.tell(23, 9);
        answers("the rest is another's", x.like(1, 0), 4096 - 63 * 18);
        answers("the list is as it was", x.like(1, 1), 1);
        x.drop(0);
        answers("two rows fewer", x.like(1, 0), 4096 - 63 * 2);
        answers("ends that there were", x.ends(1), 23);
    }

    /** Each X at which an edge ends is another: 48 of them, in lists of 1 up to 24 and down again. */
    private static void mostSlabs() {
        SlabMap x = empty();
        for (int i = 0; i < 24; i++) {
            x.add(i, i, 47 - i, i, i % 10);
        }
        answers("slabs", x.rule(1), 47);
        answers("the last", x.slab(46, 1), 47);
        answers("no more", x.slab(47, 0), NONE);
        for (int slab = 0; slab < 47; slab++) {
            answers("its list", x.slab(slab, 2), slab < 24 ? slab + 1 : 47 - slab);
            answers("the highest of it", x.list(slab, x.slab(slab, 2) - 1), x.slab(slab, 2) - 1);
        }
        answers("edges of all lists", x.all(0), 576);
        answers("the longest list", x.stairs(0), 23);
        answers("all as wide", x.stairs(1), 0);
        answers("from each to each above", x.ends(NONE), 300);
        answers("ends", x.all(5), 48);
        answers("in how many lists", x.edge(3, 5), 41);
        answers("where it begins", x.edge(3, 6), 3);
        answers("told again", x.tell(5, 6), 5);
        answers("all ends that there were", x.ends(1), 300);
        answers("all lists that there were", x.like(1, 1), 47);
        answers("dropped", x.drop(0), 0);
        answers("slabs", x.rule(1), 45);
        answers("ends that there were", x.ends(1), 276);
    }

    private static void promise38() {
        SlabMap x = new SlabMap();
        for (int what = 0; what < 5; what++) {
            answers("new: count(" + what + ")", x.count(what), 0);
        }
        Check.tape(x, THREE);
        answers("bytes", x.count(2), THREE.length());
        x.text(0);
        answers("edges", x.count(0), 3);
        answers("bytes", x.count(2), 0);
        Check.script(x, "d0");
        Check.script(x, "d1;d2");
        answers("scripts", x.count(1), 2);
        x.perform(1);
        answers("edges", x.count(0), 1);
        answers("the log", x.count(3), 2);
        answers("to be undone", x.count(4), 2);
        for (int i = 0; i < 60; i++) {
            x.move(0, i % 2 == 0 ? 1 : -1);
        }
        answers("the log", x.count(3), 60);
        answers("to be undone", x.count(4), 40);
        x.undo();
        answers("the log", x.count(3), 60);
        answers("to be undone", x.count(4), 39);
        for (int no : new int[] {5, -1, MIN, MAX}) {
            answers("count(" + no + ")", x.count(no), HIDDEN);
        }
    }
}
