import java.math.BigInteger;

/**
 * What the document's sections 2 to 4 and its promises 16 to 23, 33, 34, 36 to 38 say of acts, sentence by sentence:
 * the cases at the bounds that each one names, on either side of them; and of each call what is refused.
 */
public final class ActBoundsTest {
    private static final int NONE = SlabMap.NONE;
    private static final int HIDDEN = SlabMap.HIDDEN;
    private static final int MIN = Integer.MIN_VALUE;
    private static final int MAX = Integer.MAX_VALUE;
    private static final int[] NO_PLACE = {-1, 64, MIN, MAX};
    private static final int[] NO_REGION = {-1, 10, MIN, MAX};

    public static void main(String[] args) {
        added();
        addRefused();
        gone();
        told();
        moved();
        moveRefused();
        undone();
        undoneEach();
        fortyUndone();
        statusReasons();
        statusOfSeveral();
        statusStays();
        logOfEach();
        logOfSixty();
        logUndone();
        ago();
        agoOfForty();
        run();
        runLongest();
        perform();
        performLongest();
        waysBounds();
        waysDraws();
        waysSorts();
        waysLeft();
        image();
        imageOfTheLog();
        back();
        count();
        refusedWithMap();
        refusedWithout();
        lastCall();
        Check.close("ActBoundsTest");
    }

    // ---- what is asked here ----

    private static void answers(String call, int got, int due) {
        Check.same(call, got, due);
    }

    private static void status(SlabMap x, int... due) {
        for (int what = 0; what < 4; what++) {
            answers("status(" + what + ")", x.status(what), due[what]);
        }
    }

    private static void edge(SlabMap x, int edge, String due) {
        Check.yes("edge " + edge + ": " + Check.edgeOf(x, edge) + " is " + due, Check.edgeOf(x, edge).equals(due));
    }

    private static SlabMap empty() {
        return Check.mapOf("e1,1,1,1,1");
    }

    /** Edges 0 to 23 all the way, at Y 1 to 24, told by the map, not by acts. */
    private static SlabMap full() {
        StringBuilder rows = new StringBuilder("e0,1,63,1,1");
        for (int y = 2; y < 25; y++) {
            rows.append(";e0,").append(y).append(",63,").append(y).append(",1");
        }
        return Check.mapOf(rows.toString());
    }

    /** The i-th of many acts: in the log it has the number i modulo 23. */
    private static void tellOnce(SlabMap x, int i) {
        answers("tell", x.tell(i % 23, 2 + i / 23 % 2) == NONE ? 1 : 0, 0);
    }

    // ---- acts ----

    private static void added() {
        Check.of("ADDED: an EDGE that is from the left to the right, CROSSES none");
        SlabMap x = empty();
        answers("from corner to corner", x.add(0, 0, 63, 63, 9), 0);
        answers("one step, region 0", x.add(62, 63, 63, 63, 0), 1);
        answers("the lower corners", x.add(0, 0, 63, 0, 1), 2);
        edge(x, 0, "0,0,63,63,9");
        edge(x, 1, "62,63,63,63,0");
        edge(x, 2, "0,0,63,0,1");
        answers("slabs", x.rule(1), 2);
        answers("acts", x.count(4), 3);
    }

    private static void addRefused() {
        Check.of("ADDED: its number. NONE: no MAP (STATUS 0), a number out of bounds (1), not to the right (2),"
                + " it CROSSES one, there are 24 (3).");
        SlabMap none = new SlabMap();
        answers("no map", none.add(0, 0, 1, 0, 1), NONE);
        answers("no map", none.add(-1, 0, 1, 0, 1), NONE);
        status(none, 2, 0, 0, 0);
        SlabMap x = Check.mapOf("e0,10,63,10,1");
        for (int no : NO_PLACE) {
            answers("x " + no, x.add(no, 0, 63, 0, 1), NONE);
            answers("y " + no, x.add(0, no, 63, 0, 1), NONE);
            answers("to x " + no, x.add(0, 0, no, 0, 1), NONE);
            answers("to y " + no, x.add(0, 0, 63, no, 1), NONE);
        }
        for (int no : NO_REGION) {
            answers("region " + no, x.add(0, 0, 63, 0, no), NONE);
        }
        status(x, 0, 20, 0, 0);
        answers("straight up", x.add(5, 0, 5, 63, 1), NONE);
        answers("to the left", x.add(6, 0, 5, 0, 1), NONE);
        status(x, 0, 20, 2, 0);
        answers("across", x.add(0, 9, 63, 11, 1), NONE);
        status(x, 0, 20, 2, 1);
        answers("none was added", x.count(0) + x.count(3) + x.count(4), 1);
        x = full();
        answers("a 25th", x.add(0, 63, 63, 63, 1), NONE);
        status(x, 0, 0, 0, 1);
        x.drop(23);
        answers("the 24th", x.add(0, 63, 63, 63, 1), 23);
        status(x, 0, 0, 0, 1);
    }

    private static void gone() {
        Check.of("GONE: an EDGE; an EDGE's REGION is told");
        SlabMap y = Check.mapOf("e0,0,9,0,1;e0,5,9,5,2");
        answers("gone", y.drop(1), 2);
        edge(y, 0, "0,0,9,0,1");
        edge(y, 1, "");
        answers("told", y.tell(0, 9), 1);
        edge(y, 0, "0,0,9,0,9");
        Check.of("GONE: its REGION. NONE: no such EDGE (STATUS 0).");
        SlabMap x = full();
        x.tell(0, 0);
        x.tell(23, 9);
        answers("the first", x.drop(0), 0);
        answers("the last", x.drop(23), 9);
        answers("edges", x.count(0), 22);
        for (int no : new int[] {0, 23, 24, -1, MIN, MAX}) {
            answers("drop(" + no + ")", x.drop(no), NONE);
        }
        status(x, 6, 0, 0, 0);
        for (int edge = 1; edge < 23; edge++) {
            answers("each", x.drop(edge), 1);
        }
        answers("none is left", x.count(0) + x.rule(1), 0);
        answers("no edge", x.drop(1), NONE);
        answers("acts", x.count(4), 26);
        SlabMap none = new SlabMap();
        answers("no map", none.drop(0), NONE);
        status(none, 1, 0, 0, 0);
    }

    private static void told() {
        Check.of("Its REGION is told: what it was. NONE: no such EDGE (STATUS 0), out of bounds (1), it is so (2).");
        SlabMap x = full();
        answers("0", x.tell(23, 0), 1);
        answers("9", x.tell(23, 9), 0);
        answers("it is so", x.tell(23, 9), NONE);
        status(x, 0, 0, 1, 0);
        for (int no : NO_REGION) {
            answers("tell(0, " + no + ")", x.tell(0, no), NONE);
        }
        status(x, 0, 4, 1, 0);
        x.drop(5);
        for (int no : new int[] {5, 24, -1, MIN, MAX}) {
            answers("tell(" + no + ", 2)", x.tell(no, 2), NONE);
        }
        status(x, 5, 4, 1, 0);
        answers("acts", x.count(4), 3);
        edge(x, 23, "0,24,63,24,9");
        SlabMap none = new SlabMap();
        answers("no map", none.tell(0, 1), NONE);
        status(none, 1, 0, 0, 0);
    }

    private static void moved() {
        Check.of("MOVED: all EDGES by two numbers (all must stay 0 .. 63)");
        SlabMap x = Check.mapOf("e0,0,1,0,1;e0,1,1,0,2");
        answers("to the right, up", x.move(62, 62), 2);
        edge(x, 0, "62,62,63,62,1");
        edge(x, 1, "62,63,63,62,2");
        answers("a step more to the right", x.move(1, 0), NONE);
        answers("a step more up: the beginning of one", x.move(0, 1), NONE);
        answers("to the left, down", x.move(-62, -62), 2);
        edge(x, 0, "0,0,1,0,1");
        answers("a step more to the left", x.move(-1, 0), NONE);
        answers("a step more down", x.move(0, -1), NONE);
        status(x, 0, 0, 0, 4);
        x = Check.mapOf("e0,0,1,63,1");
        answers("up: its end", x.move(0, 1), NONE);
        answers("down: its beginning", x.move(0, -1), NONE);
        answers("to the right", x.move(62, 0), 1);
        edge(x, 0, "62,0,63,63,1");
        x = Check.mapOf("e0,63,1,0,1");
        answers("up: its beginning", x.move(0, 1), NONE);
        answers("down: its end", x.move(0, -1), NONE);
        x = full();
        x.drop(23);
        x.add(0, 63, 63, 63, 1);
        answers("the last alone would be outside", x.move(0, 1), NONE);
        answers("all but the first could be lower", x.move(0, -2), NONE);
        answers("all 24", x.move(0, -1), 24);
        edge(x, 23, "0,62,63,62,1");
        edge(x, 0, "0,0,63,0,1");
    }

    private static void moveRefused() {
        Check.of("MOVED: how many EDGES. NONE: no MAP (STATUS 0), a number not -63 .. 63 (1), both are 0 (2),"
                + " one would be outside (3).");
        SlabMap x = empty();
        answers("no edge", x.move(63, 63), 0);
        answers("no edge", x.move(-63, -63), 0);
        answers("no edge", x.move(0, 1), 0);
        answers("no edge", x.move(-1, 0), 0);
        answers("acts", x.count(4), 4);
        for (int no : new int[] {64, -64, MIN, MAX}) {
            answers("x " + no, x.move(no, 0), NONE);
            answers("y " + no, x.move(0, no), NONE);
        }
        status(x, 0, 8, 0, 0);
        answers("by nothing", x.move(0, 0), NONE);
        status(x, 0, 8, 1, 0);
        x.add(0, 0, 63, 0, 1);
        answers("outside", x.move(63, 0), NONE);
        answers("outside", x.move(-63, 63), NONE);
        status(x, 0, 8, 1, 2);
        SlabMap none = new SlabMap();
        answers("no map", none.move(1, 0), NONE);
        answers("no map", none.move(0, 0), NONE);
        answers("no map", none.move(64, 0), NONE);
        status(none, 3, 0, 0, 0);
    }

    // ---- undoing, the status, the log ----

    private static void undone() {
        Check.of("The latest ACT is UNDONE: how many still can be. NONE: none.");
        SlabMap x = Check.mapOf("e0,0,9,0,1");
        answers("none", x.undo(), NONE);
        x.add(9, 0, 20, 0, 2);
        answers("the only one", x.undo(), 0);
        answers("none", x.undo(), NONE);
        answers("slabs", x.rule(1), 1);
        answers("the list", x.slab(1, 2), NONE);
        answers("the log", x.count(3), 0);
        answers("the log", x.log(0, 0), HIDDEN);
        answers("again", x.add(9, 0, 20, 0, 3), 1);
        answers("slabs", x.rule(1), 2);
        answers("a refused one is none", x.tell(1, 3), NONE);
        answers("the one ahead of it", x.undo(), 0);
        answers("nothing of this is refused but one", x.status(0) + x.status(1) + x.status(2) + x.status(3), 1);
        answers("no map", new SlabMap().undo(), NONE);
    }

    private interface Call {
        int on(SlabMap x);
    }

    private static void undoneEach() {
        Check.of("All these are ACTS");
        undoneEach("add", 1, x -> x.add(20, 5, 30, 5, 3));
        undoneEach("drop the first", 1, x -> x.drop(0));
        undoneEach("drop the last", 1, x -> x.drop(1));
        undoneEach("tell", 1, x -> x.tell(1, 9));
        undoneEach("move", 1, x -> x.move(-3, 4));
        undoneEach("a script", 3, x -> x.perform(0));
        // seed 25 draws r1,5
        undoneEach("ways", 1, x -> x.ways(1, 25));
    }

    private static void undoneEach(String name, int acts, Call call) {
        SlabMap x = Check.mapOf("e10,10,20,20,1;e12,40,50,40,2");
        Check.script(x, "m1,1;d1;a0,0,9,0,9");
        x.tell(0, 5);
        String before = Check.seen(x);
        call.on(x);
        answers("acts of " + name, x.count(4), 1 + acts);
        answers("log of " + name, x.count(3), 1 + acts);
        Check.no(name + " does something", before.equals(Check.seen(x)));
        for (int i = acts; i > 0; i--) {
            answers("undo", x.undo(), i);
        }
        Check.yes(name + " undone", before.equals(Check.seen(x)));
        answers("the region told ahead of it", x.edge(0, 4), 5);
        answers("it can be undone, too", x.undo(), 0);
        answers("the region", x.edge(0, 4), 1);
    }

    private static void fortyUndone() {
        Check.of("the latest 40 can be UNDONE one by one (the LOG, too)");
        for (int acts : new int[] {39, 40, 41, 79, 80, 81, 130}) {
            SlabMap x = full();
            for (int i = 0; i < acts; i++) {
                tellOnce(x, i);
            }
            int can = Math.min(acts, 40);
            answers("acts", x.count(4), can);
            for (int left = can - 1; left >= 0; left--) {
                answers("undo", x.undo(), left);
            }
            answers("no more", x.undo(), NONE);
            answers("no more", x.count(4), 0);
            int latest = acts - can;
            for (int edge = 0; edge < 23; edge++) {
                // the last of the acts that stand told it, or none
                int last = latest - 1 - Math.floorMod(latest - 1 - edge, 23);
                answers("region of " + edge, x.edge(edge, 4), last < 0 ? 1 : 2 + last / 23 % 2);
            }
            answers("the log", x.count(3), Math.min(60, latest));
            tellOnce(x, latest);
            answers("an act behind them", x.count(4), 1);
        }
        SlabMap x = full();
        x.drop(23);
        x.undo();
        answers("the 24th is there again", x.count(0), 24);
        answers("no room", x.add(0, 50, 63, 50, 1), NONE);
        x.drop(23);
        x.drop(0);
        x.undo();
        answers("the 23 others are there", x.count(0), 23);
        answers("the number 23 is free", x.add(0, 50, 63, 50, 1), 23);
    }

    private static void statusReasons() {
        Check.of("STATUS: how many ACTS were refused as there was no such EDGE, no MAP (0), out of bounds (1)");
        SlabMap x = new SlabMap();
        status(x, 0, 0, 0, 0);
        x.add(0, 0, 1, 0, 1);
        x.drop(0);
        x.tell(0, 1);
        x.move(1, 1);
        status(x, 4, 0, 0, 0);
        Check.tape(x, "e0,0,9,0,1");
        x.text(0);
        x.drop(1);
        x.tell(1, 1);
        status(x, 6, 0, 0, 0);
        x.add(0, 0, 64, 0, 1);
        x.tell(0, 10);
        x.move(0, 64);
        status(x, 6, 3, 0, 0);
        Check.of("it is so: an EDGE not to the right, the REGION as it is, MOVED by 0, 0 (2)");
        x.add(5, 0, 5, 9, 1);
        x.tell(0, 1);
        x.move(0, 0);
        status(x, 6, 3, 3, 0);
        Check.of("it CROSSES one, would be outside, there are 24 (3)");
        x.add(1, 0, 5, 0, 1);
        x.move(-1, 0);
        status(x, 6, 3, 3, 2);
        for (int i = 1; i < 24; i++) {
            x.add(0, i, 9, i, 1);
        }
        x.add(0, 24, 9, 24, 1);
        status(x, 6, 3, 3, 3);
        Check.of("STATUS. NONE: no such what.");
        for (int no : new int[] {4, -1, MIN, MAX}) {
            answers("status(" + no + ")", x.status(no), NONE);
        }
    }

    private static void statusOfSeveral() {
        Check.of("of several the first");
        SlabMap none = new SlabMap();
        none.add(64, 0, 0, 0, 10);
        none.drop(24);
        none.tell(24, 10);
        none.move(64, 64);
        none.move(0, 0);
        status(none, 5, 0, 0, 0);
        SlabMap x = full();
        // out of bounds and not to the right; and there are 24; and as it is
        x.add(64, 0, 0, 0, 1);
        x.add(5, 0, 5, 64, 1);
        x.add(0, 1, 63, 1, 10);
        x.move(0, -64);
        status(x, 0, 4, 0, 0);
        // not to the right, and there are 24, and across
        x.add(6, 0, 5, 63, 1);
        status(x, 0, 4, 1, 0);
        x.tell(24, 10);
        x.tell(-1, 1);
        status(x, 2, 4, 1, 0);
        // across, and there are 24: one act refused
        x.add(0, 0, 63, 63, 1);
        status(x, 2, 4, 1, 1);
        x.drop(3);
        x.tell(3, 1);
        x.tell(3, 10);
        status(x, 4, 4, 1, 1);
    }

    private static void statusStays() {
        Check.of("not UNDONE");
        SlabMap x = Check.mapOf("e0,0,9,0,1");
        x.tell(0, 2);
        x.image();
        x.tell(0, 2);
        x.drop(5);
        x.undo();
        status(x, 1, 0, 1, 0);
        x.undo();
        status(x, 1, 0, 1, 0);
        x.back();
        status(x, 1, 0, 1, 0);
        Check.tape(x, "e0,0,9,0,1");
        x.text(0);
        status(x, 1, 0, 1, 0);
    }

    private static void log(SlabMap x, int i, int sort, int number, int slabs) {
        answers("log(" + i + ", 0)", x.log(i, 0), sort);
        answers("log(" + i + ", 1)", x.log(i, 1), number);
        answers("log(" + i + ", 2)", x.log(i, 2), slabs);
    }

    private static void logOfEach() {
        Check.of("The LOG: of each ACT its sort (0 ADDED, 1 GONE, 2 told, 3 MOVED), a number (the EDGE's; MOVED: by X),"
                + " how many SLABS there are then");
        SlabMap x = empty();
        x.move(-63, 5);
        x.move(0, 5);
        x.add(0, 0, 1, 0, 1);
        x.add(5, 0, 6, 0, 0);
        x.tell(1, 9);
        x.move(57, 63);
        x.drop(0);
        x.drop(1);
        x.move(63, -5);
        log(x, 0, 3, 63, 0);
        log(x, 1, 1, 1, 0);
        log(x, 2, 1, 0, 1);
        log(x, 3, 3, 57, 3);
        log(x, 4, 2, 1, 3);
        log(x, 5, 0, 1, 3);
        log(x, 6, 0, 0, 1);
        log(x, 7, 3, 0, 0);
        log(x, 8, 3, -63, 0);
        answers("nine", x.count(3), 9);
        Check.of("The LOG, the latest (i 0), the one ahead of it (1) ..: 0 sort, 1 number, 2 SLABS."
                + " HIDDEN: no such ones.");
        for (int no : new int[] {9, 59, 60, 61, -1, MIN, MAX}) {
            answers("log(" + no + ", 0)", x.log(no, 0), HIDDEN);
        }
        for (int no : new int[] {3, -1, MIN, MAX}) {
            answers("log(0, " + no + ")", x.log(0, no), HIDDEN);
        }
        answers("no act", empty().log(0, 0), HIDDEN);
        answers("no map", new SlabMap().log(0, 0), HIDDEN);
        x = full();
        x.drop(23);
        x.add(0, 50, 63, 50, 1);
        x.tell(23, 5);
        for (int i = 0; i < 3; i++) {
            answers("the edge 23", x.log(i, 1), 23);
        }
    }

    private static void logOfSixty() {
        Check.of("how many SLABS there are then: the latest 60");
        for (int acts : new int[] {59, 60, 61, 100, 101, 161}) {
            SlabMap x = full();
            for (int i = 0; i < acts; i++) {
                tellOnce(x, i);
            }
            answers("how long", x.count(3), Math.min(60, acts));
            for (int i = 0; i < 60 && i < acts; i++) {
                answers("of " + acts + ": log(" + i + ", 1)", x.log(i, 1), (acts - 1 - i) % 23);
            }
            answers("no 61st", x.log(60, 1), HIDDEN);
            answers("of 59 the 60th", acts == 59 ? x.log(59, 1) : HIDDEN, HIDDEN);
        }
    }

    private static void logUndone() {
        Check.of("can be UNDONE one by one (the LOG, too)");
        for (int acts : new int[] {61, 99, 100, 130}) {
            SlabMap x = full();
            for (int i = 0; i < acts; i++) {
                tellOnce(x, i);
            }
            int left = acts;
            for (int undone : new int[] {1, 39}) {
                for (int i = 0; i < undone; i++) {
                    x.undo();
                }
                left -= undone;
                answers("how long, of " + left, x.count(3), Math.min(60, left));
                for (int i = 0; i < 60 && i < left; i++) {
                    answers("of " + left + ": log(" + i + ", 1)", x.log(i, 1), (left - 1 - i) % 23);
                }
            }
        }
    }

    // ---- as it was ----

    private static void ago() {
        Check.of("AGO: as it was ahead of the k-th latest ACT that can be UNDONE, k 1 on; k 0: now.");
        SlabMap x = Check.mapOf("e0,0,63,0,1");
        answers("ahead of none", x.at(1, 0, 0, 1), NONE);
        for (int region = 2; region < 6; region++) {
            x.tell(0, region);
        }
        for (int ago = 0; ago < 5; ago++) {
            answers("the region " + ago + " acts ago", x.at(ago, 0, 0, 1), 5 - ago);
            answers("its points", x.points(ago, 5 - ago), 63 * 64);
            answers("like", x.like(ago, 0), ago == 0 ? 4096 : 64);
            answers("ends", x.ends(ago), 1);
            answers("now, all the same", x.at(0, 0, 0, 1), 5);
        }
        ahead(x, 5);
        x.undo();
        answers("one undone: the one ahead of it", x.at(0, 0, 0, 1), 4);
        answers("the fourth of four", x.at(3, 0, 0, 1), 1);
        ahead(x, 4);
        x.image();
        answers("an image is no act", x.at(3, 0, 0, 1), 1);
        x.back();
        ahead(x, 1);
        x.tell(0, 9);
        answers("an act behind BACK", x.at(1, 0, 0, 1), 4);
        ahead(x, 2);
        Check.tape(x, "e0,0,9,0,7");
        x.text(0);
        ahead(x, 1);
        answers("another map", x.at(0, 0, 0, 1), 7);
    }

    /** From this ago on there is none. */
    private static void ahead(SlabMap x, int ago) {
        for (int no : new int[] {ago, ago + 1, 41, -1, MIN, MAX}) {
            answers("at(" + no + ", 0, 0, 1)", x.at(no, 0, 0, 1), NONE);
            answers("points(" + no + ", 0)", x.points(no, 0), NONE);
            answers("like(" + no + ", 0)", x.like(no, 0), NONE);
            answers("like(" + no + ", 1)", x.like(no, 1), NONE);
            answers("ends(" + no + ")", x.ends(no), no == NONE ? 1 : NONE);
        }
    }

    private static void agoOfForty() {
        Check.of("(Apart, from as it is now, or AGO");
        for (int acts : new int[] {39, 40, 41, 90}) {
            SlabMap x = Check.mapOf("e0,0,63,0,1");
            for (int i = 0; i < acts; i++) {
                x.tell(0, 2 + i % 8);
            }
            for (int ago = 1; ago <= Math.min(40, acts); ago++) {
                int due = acts == ago ? 1 : 2 + (acts - 1 - ago) % 8;
                answers("of " + acts + ": at(" + ago + ", ..)", x.at(ago, 0, 0, 1), due);
            }
            ahead(x, Math.min(40, acts) + 1);
            answers("now", x.at(0, 0, 0, 1), 2 + (acts - 1) % 8);
        }
    }

    // ---- scripts ----

    private static void run() {
        Check.of("RUN of a SCRIPT: behind how many STEPS the first is that can't be; how many SLABS there are behind"
                + " these.");
        SlabMap x = Check.mapOf("e0,0,10,0,1");
        Check.script(x, "d1;d0");
        Check.script(x, "a10,0,20,0,2;r1,2;d0");
        Check.script(x, "a10,0,20,0,2;m-1,0;d0");
        Check.script(x, "d0;m63,63;a5,5,9,9,1");
        answers("the first: none", x.run(0, 0), 0);
        answers("as it is", x.run(0, 1), 1);
        answers("the second: it is so", x.run(1, 0), 1);
        answers("behind the first", x.run(1, 1), 2);
        answers("the second: outside", x.run(2, 0), 1);
        answers("behind the first", x.run(2, 1), 2);
        answers("none of three", x.run(3, 0), NONE);
        answers("behind all", x.run(3, 1), 1);
        Check.of("RUN: behind how many (0; NONE: all can be), SLABS (1). HIDDEN: no such SCRIPT, no MAP,"
                + " no such what.");
        for (int no : new int[] {4, -1, MIN, MAX}) {
            answers("run(" + no + ", 0)", x.run(no, 0), HIDDEN);
            answers("run(" + no + ", 1)", x.run(no, 1), HIDDEN);
        }
        for (int no : new int[] {2, -1, MIN, MAX}) {
            answers("run(3, " + no + ")", x.run(3, no), HIDDEN);
        }
        SlabMap none = new SlabMap();
        Check.script(none, "a0,0,1,0,1");
        answers("no map", none.run(0, 0), HIDDEN);
        answers("no map", none.run(0, 1), HIDDEN);
        answers("no script", empty().run(0, 0), HIDDEN);
        answers("nothing is done", x.count(3) + x.count(4) + x.status(0) + x.status(2) + x.status(3), 0);
        answers("nothing is done", x.rule(1), 1);
    }

    private static final String ELEVEN = "a1,0,2,0,1;a3,0,4,0,1;a5,0,6,0,1;a7,0,8,0,1;a9,0,10,0,1;a11,0,12,0,1;"
            + "a13,0,14,0,1;a15,0,16,0,1;a17,0,18,0,1;a19,0,20,0,1;a21,0,22,0,1;";

    private static void runLongest() {
        Check.of("behind how many STEPS the first is that can't be");
        SlabMap x = empty();
        Check.script(x, ELEVEN + "d10");
        Check.script(x, ELEVEN + "d11");
        answers("all twelve", x.run(0, 0), NONE);
        answers("ten edges", x.run(0, 1), 19);
        answers("the twelfth", x.run(1, 0), 11);
        answers("eleven edges", x.run(1, 1), 21);
        x = full();
        Check.script(x, "d23;a0,60,63,60,1;a0,61,63,61,1");
        answers("the number 23 is free again; then there are 24", x.run(0, 0), 2);
    }

    private static void perform() {
        Check.of("DO: its STEPS as ACTS, up to there (no STATUS).");
        SlabMap x = Check.mapOf("e0,0,10,0,1");
        Check.script(x, "d1;d0");
        Check.script(x, "a10,0,20,0,2;r1,2;d0");
        Check.script(x, "r1,5;m1,2;d0;a0,63,63,63,9");
        answers("none", x.perform(0), 0);
        answers("none is done", x.count(4) + x.count(3), 0);
        answers("the first", x.perform(1), 1);
        answers("it is done", x.count(0), 2);
        answers("it is across itself now", x.perform(1), 0);
        answers("all four", x.perform(2), 4);
        answers("five acts", x.count(4), 5);
        edge(x, 0, "0,63,63,63,9");
        edge(x, 1, "11,2,21,2,5");
        log(x, 0, 0, 0, 3);
        log(x, 1, 1, 0, 1);
        log(x, 2, 3, 1, 2);
        log(x, 3, 2, 1, 2);
        log(x, 4, 0, 1, 2);
        status(x, 0, 0, 0, 0);
        answers("one by one", x.undo(), 4);
        answers("the last alone", x.count(0), 1);
        Check.of("DO: how many STEPS were done. NONE: no such SCRIPT, no MAP.");
        for (int no : new int[] {3, 4, -1, MIN, MAX}) {
            answers("perform(" + no + ")", x.perform(no), NONE);
        }
        SlabMap none = new SlabMap();
        Check.script(none, "a0,0,1,0,1");
        answers("no map", none.perform(0), NONE);
        status(none, 0, 0, 0, 0);
    }

    private static void performLongest() {
        Check.of("DO: its STEPS as ACTS");
        SlabMap x = empty();
        Check.script(x, ELEVEN + "a23,0,24,0,9");
        Check.script(x, "d0;d1;d2;d3;d4;d5;d6;d7;d8;d9;d10;d11");
        answers("twelve", x.perform(0), 12);
        edge(x, 11, "23,0,24,0,9");
        answers("twelve acts", x.count(4), 12);
        answers("twelve", x.perform(1), 12);
        answers("none is left", x.count(0), 0);
        answers("twelve", x.perform(0), 12);
        answers("twelve", x.perform(1), 12);
        answers("forty", x.count(4), 40);
        answers("forty-eight", x.count(3), 48);
    }

    // ---- ways ----

    private static void waysBounds() {
        Check.of("n (1 .. 40) times");
        for (int n : new int[] {1, 2, 39, 40}) {
            SlabMap x = empty();
            int slabs = x.ways(n, 77);
            SlabMap twin = empty();
            play(twin, n, 77);
            answers("ways(" + n + ", 77)", slabs, twin.rule(1));
            Check.yes("ways(" + n + ", 77)", Check.seen(x).equals(Check.seen(twin)));
        }
        Check.of("WAYS: SLABS. NONE: no MAP, out of bounds.");
        SlabMap x = Check.mapOf("e0,0,63,0,1");
        for (int no : new int[] {0, -1, 41, MIN, MAX}) {
            answers("ways(" + no + ")", x.ways(no, 77), NONE);
        }
        answers("nothing is done", x.count(3) + x.count(4) + x.status(1), 0);
        answers("no map", new SlabMap().ways(1, 77), NONE);
        answers("no map", new SlabMap().ways(40, 0), NONE);
    }

    private static final BigInteger TURN = BigInteger.ONE.shiftLeft(64);
    private static final BigInteger TIMES = new BigInteger("6364136223846793005");
    private static final BigInteger AND = new BigInteger("1442695040888963407");

    /** Draws by numbers without bounds, cut to 64 bits; so nothing goes round by itself. */
    private static final class Draws {
        private BigInteger x;

        Draws(long seed) {
            x = BigInteger.valueOf(seed).mod(TURN);
        }

        int of(int j) {
            x = x.multiply(TIMES).add(AND).mod(TURN);
            return x.shiftRight(33).mod(BigInteger.valueOf(j)).intValue();
        }
    }

    /** What ways would do, done by the other calls. Of each sort of draw: how many were acts. */
    private static int[] play(SlabMap x, int n, long seed) {
        Draws draws = new Draws(seed);
        int[] done = new int[8];
        for (int i = 0; i < n; i++) {
            int sort = draws.of(8);
            int answer;
            if (sort < 4) {
                int[] p = {draws.of(64), draws.of(64), draws.of(64), draws.of(64), draws.of(10)};
                boolean turn = p[2] < p[0];
                answer = turn ? x.add(p[2], p[3], p[0], p[1], p[4]) : x.add(p[0], p[1], p[2], p[3], p[4]);
            } else if (sort == 4) {
                answer = x.drop(draws.of(24));
            } else if (sort < 7) {
                int edge = draws.of(24);
                answer = x.tell(edge, draws.of(10));
            } else {
                int by = draws.of(9) - 4;
                answer = x.move(by, draws.of(9) - 4);
            }
            done[sort] += answer == NONE ? 0 : 1;
        }
        return done;
    }

    private static void waysDraws() {
        Check.of("x, at first the seed, becomes x times 6364136223846793005 and 1442695040888963407"
                + " (64 bits, going round); a draw of j: (x shifted right by 33, without sign) modulo j.");
        long[] seeds = {0, 1, -1, 2, Long.MAX_VALUE, Long.MIN_VALUE, 1L << 33, -1L << 33, 1L << 62, 12345678901L};
        for (long seed : seeds) {
            SlabMap x = full();
            SlabMap twin = full();
            for (int edge = 3; edge < 24; edge++) {
                x.drop(edge);
                twin.drop(edge);
            }
            int slabs = x.ways(40, seed);
            play(twin, 40, seed);
            answers("slabs of seed " + seed, slabs, twin.rule(1));
            Check.yes("all of seed " + seed, Check.seen(x).equals(Check.seen(twin)));
        }
    }

    private static void waysSorts() {
        Check.of("a draw of 8: 0 to 3: draws of 64 four times, of 10: ADDED (the one with the lesser X first,"
                + " if they are unlike); 4: a draw of 24: GONE; 5, 6: a draw of 24, of 10: told; 7: a draw of 9, of 9:"
                + " MOVED by these less 4.");
        int[] done = new int[8];
        for (int seed = 100; seed < 160; seed++) {
            // small ones that can be moved, with all numbers taken
            StringBuilder small = new StringBuilder("e30,20,31,20,1");
            for (int y = 21; y < 44; y++) {
                small.append(";e30,").append(y).append(",31,").append(y).append(",1");
            }
            SlabMap x = Check.mapOf(small.toString());
            SlabMap twin = Check.mapOf(small.toString());
            x.ways(10, seed);
            int[] sorts = play(twin, 10, seed);
            Check.yes("all of seed " + seed, Check.seen(x).equals(Check.seen(twin)));
            for (int sort = 0; sort < 8; sort++) {
                done[sort] += sorts[sort];
            }
        }
        for (int sort = 0; sort < 8; sort++) {
            Check.yes("acts of sort " + sort + " were drawn", done[sort] > 0);
        }
    }

    private static void waysLeft() {
        Check.of("Each is an ACT; what can't be is left (no STATUS).");
        int left = 0;
        for (int seed = 0; seed < 10; seed++) {
            SlabMap x = full();
            x.ways(40, seed);
            SlabMap twin = full();
            int done = 0;
            for (int acts : play(twin, 40, seed)) {
                done += acts;
            }
            answers("acts", x.count(4), done);
            answers("the log", x.count(3), done);
            status(x, 0, 0, 0, 0);
            left += 40 - done;
            String before = Check.seen(full());
            for (int i = 0; i < done; i++) {
                x.undo();
            }
            Check.yes("each can be undone", before.equals(Check.seen(x)));
        }
        Check.yes("some were left", left > 0);
    }

    // ---- images, counts ----

    private static void image() {
        Check.of("An IMAGE (instead of the one ahead): SLABS. NONE: no MAP.");
        answers("no map", new SlabMap().image(), NONE);
        SlabMap x = empty();
        answers("no slab", x.image(), 0);
        x.add(0, 0, 9, 0, 1);
        answers("a slab", x.slab(0, 1), 9);
        answers("back to none", x.back(), 0);
        answers("no slab any more", x.slab(0, 1), NONE);
        answers("no edge", x.count(0), 0);
        x.add(0, 0, 9, 0, 1);
        answers("one slab", x.image(), 1);
        answers("an image is no act", x.count(4) + x.count(3), 2);
        x.add(20, 0, 29, 0, 1);
        answers("three slabs", x.rule(1), 3);
        answers("back to the latest one", x.back(), 1);
        answers("one edge", x.count(0), 1);
        x = Check.mapOf("e0,0,9,0,1");
        x.tell(0, 2);
        x.image();
        answers("what was ahead of it can be undone yet", x.undo(), 0);
        answers("and is", x.edge(0, 4), 1);
        x.back();
        answers("back", x.edge(0, 4), 2);
    }

    private static void imageOfTheLog() {
        Check.of("An IMAGE keeps all that ACTS change");
        SlabMap x = full();
        x.tell(5, 9);
        x.drop(23);
        x.image();
        for (int i = 0; i < 110; i++) {
            tellOnce(x, i);
        }
        x.back();
        answers("the log", x.count(3), 2);
        log(x, 0, 1, 23, 1);
        log(x, 1, 2, 5, 1);
        answers("no 24th edge", x.count(0), 23);
        answers("the region told", x.edge(5, 4), 9);
        answers("the others as they were", x.edge(4, 4), 1);
        SlabMap twin = full();
        twin.tell(5, 9);
        twin.drop(23);
        twin.image();
        twin.back();
        Check.yes("all as at once behind it", Check.seen(twin).equals(Check.seen(x)));
    }

    private static void back() {
        Check.of("BACK: it is so again (no ACT can be UNDONE then)");
        SlabMap x = Check.mapOf("e0,0,9,0,1;e9,0,20,0,2");
        x.tell(0, 5);
        x.tell(1, 6);
        x.image();
        x.drop(0);
        x.move(1, 1);
        answers("the only slab", x.slab(0, 0), 10);
        answers("back", x.back(), 2);
        edge(x, 0, "0,0,9,0,5");
        edge(x, 1, "9,0,20,0,6");
        answers("its lists", x.list(0, 0), 0);
        answers("its slabs", x.slab(0, 0), 0);
        answers("none can be undone", x.count(4), 0);
        answers("none can be undone", x.undo(), NONE);
        answers("none was ago", x.at(1, 0, 0, 1), NONE);
        x.drop(1);
        answers("one can be undone", x.undo(), 0);
        answers("back at once", x.back(), 2);
        answers("and again", x.back(), 2);
        answers("the log", x.count(3), 2);
        Check.of("BACK: SLABS. NONE: no IMAGE of this MAP.");
        answers("no map", new SlabMap().back(), NONE);
        answers("no image", Check.mapOf("e0,0,9,0,1").back(), NONE);
        Check.tape(x, "e0,0,9,0,1;");
        x.text(0);
        answers("a fault: it is this map yet", x.back(), 2);
        Check.tape(x, "e0,0,9,0,1");
        x.text(0);
        answers("another map", x.back(), NONE);
        answers("nothing is done", x.count(0), 1);
        x.image();
        answers("its own image", x.back(), 1);
    }

    private static void count() {
        Check.of("0 EDGES, 1 SCRIPTS, 2 bytes of the TAPE, 3 how long the LOG is, 4 ACTS that can be UNDONE.");
        SlabMap x = new SlabMap();
        for (int what = 0; what < 5; what++) {
            answers("new: count(" + what + ")", x.count(what), 0);
        }
        x = full();
        for (int i = 0; i < 4; i++) {
            Check.script(x, "d1");
        }
        Check.tape(x, " ".repeat(480));
        for (int i = 0; i < 61; i++) {
            tellOnce(x, i);
        }
        int[] due = {24, 4, 480, 60, 40};
        for (int what = 0; what < 5; what++) {
            answers("the most: count(" + what + ")", x.count(what), due[what]);
        }
        Check.of("HIDDEN for others.");
        for (int no : new int[] {5, -1, MIN, MAX}) {
            answers("count(" + no + ")", x.count(no), HIDDEN);
        }
    }

    // ---- what is refused ----

    private static SlabMap rich() {
        SlabMap x = Check.mapOf("e0,10,40,10,1;e10,20,30,40,2;n1land");
        for (int i = 0; i < 4; i++) {
            Check.script(x, "d9");
        }
        x.add(10, 20, 30, 20, 3);
        x.tell(0, 9);
        Check.tape(x, "x".repeat(479));
        return x;
    }

    private static void refused(SlabMap x, String name, Call call, int due, int reason) {
        String before = Check.seen(x);
        int[] status = new int[4];
        for (int what = 0; what < 4; what++) {
            status[what] = x.status(what) + (what == reason ? 1 : 0);
        }
        answers(name, call.on(x), due);
        Check.yes(name + " changes nothing", before.equals(Check.seen(x)));
        status(x, status);
    }

    private static void refused(String name, Call call, int due) {
        refused(rich(), name, call, due, NONE);
    }

    private static void refusedWithMap() {
        Check.of("What is refused answers as told and changes nothing but STATUS.");
        refused("feed", x -> x.feed(-1, -1, -1, -1, -1), NONE);
        refused("feed", x -> x.feed('1', 0, 0, 0, 1 << 24), NONE);
        refused("end", x -> x.end(480) ? 1 : 0, 0);
        refused("end", x -> x.end(-1) ? 1 : 0, 0);
        refused("fault", x -> x.fault(2), -2);
        refused("text, a fault", x -> x.text(0), NONE);
        refused("text, there are four", x -> x.text(1), NONE);
        refused("text, no such sort", x -> x.text(2), NONE);
        refused("rule", x -> x.rule(4), NONE);
        refused("slab", x -> x.slab(3, 0), NONE);
        refused("list", x -> x.list(0, 1), NONE);
        refused("at", x -> x.at(3, 0, 0, 0), NONE);
        refused("above", x -> x.above(64, 0, 0), NONE);
        refused("way", x -> x.way(64, 0, 0, 0, -1), NONE);
        refused("points", x -> x.points(3, 0), NONE);
        refused("beside", x -> x.beside(10), NONE);
        refused("colours", x -> x.colours(10), NONE);
        refused(rich(), "add, out of bounds", x -> x.add(0, 0, 64, 0, 1), NONE, 1);
        refused(rich(), "add, not to the right", x -> x.add(5, 0, 5, 0, 1), NONE, 2);
        refused(rich(), "add, across", x -> x.add(0, 0, 63, 63, 1), NONE, 3);
        refused(full(), "add, there are 24", x -> x.add(0, 50, 63, 50, 1), NONE, 3);
        refused(rich(), "drop", x -> x.drop(3), NONE, 0);
        refused(rich(), "tell, no such edge", x -> x.tell(3, 1), NONE, 0);
        refused(rich(), "tell, out of bounds", x -> x.tell(0, 10), NONE, 1);
        refused(rich(), "tell, it is so", x -> x.tell(0, 9), NONE, 2);
        refused(rich(), "move, out of bounds", x -> x.move(0, 64), NONE, 1);
        refused(rich(), "move, by nothing", x -> x.move(0, 0), NONE, 2);
        refused(rich(), "move, outside", x -> x.move(-1, 0), NONE, 3);
        refused("ways", x -> x.ways(0, 1), NONE);
        refused("ways", x -> x.ways(41, 1), NONE);
        refused("status", x -> x.status(4), NONE);
        refused(full(), "undo", x -> x.undo(), NONE, NONE);
        refused("log", x -> x.log(2, 0), HIDDEN);
        refused("ends", x -> x.ends(3), NONE);
        refused("like", x -> x.like(3, 0), NONE);
        refused("stairs", x -> x.stairs(2), NONE);
        refused("would", x -> x.would(0, 0, 63, 63, 1, -1), NONE);
        refused("blocks", x -> x.blocks(64, 0, 0, 0), NONE);
        refused("near", x -> x.near(0, 64), NONE);
        refused("name", x -> x.name(10, 0), NONE);
        refused("step", x -> x.step(4, 0, 0), HIDDEN);
        refused("run", x -> x.run(4, 0), HIDDEN);
        refused("perform", x -> x.perform(4), NONE);
        refused("perform, the first can't be", x -> x.perform(0), 0);
        refused("all", x -> x.all(6), HIDDEN);
        refused("back", x -> x.back(), NONE);
        refused("count", x -> x.count(5), HIDDEN);
    }

    private static void refused(String name, int due, int reason, Call call) {
        refused(new SlabMap(), name + " without a map", call, due, reason);
    }

    private static void refusedWithout() {
        Check.of("no such EDGE, no MAP (0)");
        refused("rule", NONE, NONE, x -> x.rule(0));
        refused("beside", NONE, NONE, x -> x.beside(0));
        refused("colours", NONE, NONE, x -> x.colours(NONE));
        refused("add", NONE, 0, x -> x.add(0, 0, 1, 0, 1));
        refused("drop", NONE, 0, x -> x.drop(0));
        refused("tell", NONE, 0, x -> x.tell(0, 1));
        refused("move", NONE, 0, x -> x.move(1, 0));
        refused("ways", NONE, NONE, x -> x.ways(40, 2));
        refused("undo", NONE, NONE, x -> x.undo());
        refused("idle", NONE, NONE, x -> x.idle());
        refused("ends", NONE, NONE, x -> x.ends(NONE));
        refused("like", NONE, NONE, x -> x.like(0, 0));
        refused("would", NONE, NONE, x -> x.would(0, 0, 1, 0, 1, -1));
        refused("blocks", NONE, NONE, x -> x.blocks(0, 0, 1, 0));
        refused("all", HIDDEN, NONE, x -> x.all(0));
        refused("image", NONE, NONE, x -> x.image());
        refused("back", NONE, NONE, x -> x.back());
        refused("run", HIDDEN, NONE, x -> x.run(0, 0));
        refused("perform", NONE, NONE, x -> x.perform(0));
    }

    private static void lastCall() {
        Check.of("An object is used for at most 512 calls after it has been made");
        SlabMap x = Check.mapOf("e0,0,63,0,1");
        // told by four calls: the tape emptied, its length asked, one feed, the text
        for (int i = 0; i < 504; i++) {
            x.tell(0, 2 + i % 2);
        }
        answers("the 509th", x.tell(0, 1), 3);
        answers("the 510th", x.count(4), 40);
        answers("the 511th", x.log(59, 0), 2);
        answers("the 512th", x.points(40, 2), 63 * 64);
        x = empty();
        // as many acts as so many calls can do
        int acts = 0;
        for (int i = 0; i < 200; i++) {
            x.ways(40, i);
            acts = x.count(3);
        }
        answers("the log", acts, 60);
        for (int left = 39; left >= 0; left--) {
            answers("undo", x.undo(), left);
        }
        answers("the log behind all that", x.count(3), 60);
    }
}
