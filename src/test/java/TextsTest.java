/** Promises 1 to 5, 31, 32: a new object, the tape, its faults, maps and scripts told, names, steps. */
public final class TextsTest {
    private static final int NONE = SlabMap.NONE;
    private static final int HIDDEN = SlabMap.HIDDEN;

    public static void main(String[] args) {
        promise1();
        promise2();
        promise3();
        promise4Maps();
        promise4Names();
        promise4Scripts();
        promise4Longest();
        promise5Maps();
        promise5WhatGoes();
        promise5Scripts();
        promise31();
        promise32();
        Check.close("TextsTest");
    }

    private static void promise1() {
        Check.same("NONE", SlabMap.NONE, -1);
        Check.same("HIDDEN", SlabMap.HIDDEN, -1000000);
        SlabMap x = new SlabMap();
        for (int what = 0; what < 5; what++) {
            Check.same("new: count(" + what + ")", x.count(what), 0);
            Check.same("new: rule(" + what + ")", x.rule(what), NONE);
            Check.same("new: all(" + what + ")", x.all(what), HIDDEN);
        }
        for (int what = 0; what < 4; what++) {
            Check.same("new: status", x.status(what), 0);
        }
        Check.noEdge(x, 0, 0);
        Check.same("new: slab", x.slab(0, 0), NONE);
        Check.same("new: list", x.list(0, 0), NONE);
        Check.same("new: above", x.above(0, 0, 0), NONE);
        Check.same("new: near", x.near(0, 0), NONE);
        Check.same("new: points", x.points(0, 0), NONE);
        Check.same("new: at", x.at(0, 0, 0, 0), NONE);
        Check.same("new: way", x.way(0, 0, 0, 0, NONE), NONE);
        Check.same("new: beside", x.beside(0), NONE);
        Check.same("new: blocks", x.blocks(0, 0, 1, 1), NONE);
        Check.same("new: would", x.would(0, 0, 1, 1, 1, -1), NONE);
        Check.same("new: ways", x.ways(1, 1), NONE);
        Check.same("new: log", x.log(0, 0), HIDDEN);
        Check.same("new: step", x.step(0, 0, 0), HIDDEN);
        Check.same("new: run", x.run(0, 0), HIDDEN);
        Check.same("new: perform", x.perform(0), NONE);
        Check.same("new: script without a map", Check.script(x, "d1"), 0);
        Check.same("new: run without a map", x.run(0, 0), HIDDEN);
        Check.same("new: run without a map", x.run(0, 1), HIDDEN);
        Check.same("new: perform without a map", x.perform(0), NONE);
        Check.same("new: step without a map", x.step(0, 0, 0), 1);
        Check.same("nothing of this is a refused act", x.status(0), 0);
    }

    private static void promise2() {
        SlabMap x = new SlabMap();
        Check.same("nothing comes", x.feed(0, 0, 0, 0, 0), 0);
        Check.same("zeros are left out", x.feed(0x00650000, 0, 0x30002C00, 0, 0x31), 4);
        Check.same("the highest byte first", Check.more(x, ",2,3,4"), 10);
        Check.same("e0,1,2,3,4 is told", x.fault(0), NONE);
        Check.same("bytes above 127 count", x.feed(-1, 0x80808080, 0xff, 0, -256), 10 + 4 + 4 + 1 + 3);
        Check.same("and are faults", x.fault(0), 10);
        x.end(0);
        for (int i = 1; i <= 24; i++) {
            Check.same("feed " + i, x.feed(0x31313131, 0x31313131, 0x31313131, 0x31313131, 0x31313131), 20 * i);
        }
        Check.same("480 and none more", x.feed(0, 0, 0, 0, 0), 480);
        Check.same("481", x.feed(0, 0, 0, 0, 1), NONE);
        Check.same("481, the highest byte", x.feed(1 << 24, 0, 0, 0, 0), NONE);
        Check.same("what is refused changes nothing", x.count(2), 480);
        x.end(470);
        Check.same("481 of 470 and 11", x.feed(-1, -1, 0xffffff, 0, 0), NONE);
        Check.same("481 of 470 and 11", x.feed(0, -1, -1, 0xffffff, 0), NONE);
        Check.same("481 of 470 and 11", x.feed(0, 0, -1, -1, 0xffffff), NONE);
        Check.same("481 of 470 and 11", x.feed(0xffffff, 0, 0, -1, -1), NONE);
        Check.same("481 of 470 and 11", x.feed(-1, 0xffffff, 0, 0, -1), NONE);
        Check.same("still 470", x.count(2), 470);
        Check.same("480 of 470 and 10", x.feed(-1, -1, 0xffff, 0, 0), 480);
    }

    private static void promise3() {
        SlabMap x = new SlabMap();
        Check.yes("end(0) of none", x.end(0));
        Check.no("end(1) of none", x.end(1));
        Check.tape(x, "e0,0,1,1,1x");
        Check.no("end(-1)", x.end(-1));
        Check.no("end(12)", x.end(12));
        Check.no("end(MIN)", x.end(Integer.MIN_VALUE));
        Check.no("end(MAX)", x.end(Integer.MAX_VALUE));
        Check.same("still 11", x.count(2), 11);
        Check.yes("end(11)", x.end(11));
        Check.same("all of it", x.count(2), 11);
        Check.same("with the x", x.fault(0), 10);
        Check.yes("end(10)", x.end(10));
        Check.same("without the x", x.fault(0), NONE);
        Check.no("it does not come back", x.end(11));
        Check.same("ten", x.count(2), 10);
    }

    private static void map(String text, int fault) {
        fault(text, 0, fault);
    }

    private static void script(String text, int fault) {
        fault(text, 1, fault);
    }

    private static void fault(String text, int sort, int fault) {
        SlabMap x = new SlabMap();
        Check.tape(x, text);
        Check.same("fault(" + sort + ") of [" + text + "]", x.fault(sort), fault);
        Check.same("the tape stays", x.count(2), text.length());
        Check.same("text(" + sort + ") of [" + text + "] is none", x.text(sort) == NONE ? 1 : 0, fault == NONE ? 0 : 1);
        Check.same("a fault lets the tape stay", x.count(2), fault == NONE ? 0 : text.length());
    }

    private static void promise4Maps() {
        map("", 0);
        map("   ", 3);
        map("e", 1);
        map("e ", 2);
        map("e1,2,3,4,5", NONE);
        map("e1,2,3,4,5;", 11);
        map("e1,2,3,4,5 ; ", 13);
        map("e1,2,3,4,5;;", 11);
        map(";e1,2,3,4,5", 0);
        map("e1,2,3,4", 8);
        map("e1,2,3,4,", 9);
        map("e1,2,3,4;", 8);
        map("e,1", 1);
        map("e1,,2", 3);
        map("e1 2", 3);
        map("e1, 2 3", 6);
        map("e1,2,3,4,5,6", 10);
        map("e1,2,3,4,5e", 10);
        map("e1,2,3,4,5 5", 11);
        map("e-1,2,3,4,5", 1);
        map("e0,0,-1", 5);
        map("e63,63,63,63,9", NONE);
        map("e00,01,02,03,04", NONE);
        map("e1,2,3,4,09", NONE);
        map("e64,0,1,1,1", 2);
        map("e64", 2);
        map("e99 ,", 2);
        map("e0,64,1,1,1", 4);
        map("e0,0,64,1,1", 6);
        map("e0,0,1,64,1", 8);
        map("e640", 3);
        map("e063", 3);
        map("e999,", 3);
        map("e0000", 3);
        map("e1,2,3,4,10", 10);
        map("e1,2,3,4,99", 10);
        map("e1,2,3,4,123", 11);
        map("e1,2,3,4,000", 11);
        map("e1,2,3,4,10;e64,", 10);
        map(" e 1 , 2 , 3 , 4 , 5 ", NONE);
        map("  e  01  ,  2,3,  4,5  ;  e1,2,3,4,5", NONE);
        map("e1,2,3,4,5;e9,8,7,6,5;e1,1,2,2,2", NONE);
        map("E1,2,3,4,5", 0);
        map("a1,2,3,4,5", 0);
        map("d1", 0);
        map("x", 0);
        map("\te1,2,3,4,5", 0);
        map("e\t1", 1);
        map((char) 160 + "e1", 0);
        map("e/", 1);
        map("e:", 1);
        map("e1/", 2);
        map("e1:", 2);
        map("e1,2,3,4,5" + (char) 255, 10);
    }

    private static void promise4Names() {
        map("n1ab", 4);
        map("n1ab  ", 6);
        map("n1ab;n2b", 8);
        map("n", 1);
        map("n ", 2);
        map("na", 1);
        map("n-1", 1);
        map("n/", 1);
        map("n:", 1);
        map("n1", 2);
        map("n1 ", 3);
        map("n1;", 2);
        map("n12", 2);
        map("n1A", 2);
        map("n0`", 2);
        map("n0{", 2);
        map("n0a`", 3);
        map("n0z{", 3);
        map("n1abcde", 6);
        map("n1abcdE", 6);
        map("n1ab c", 5);
        map("n1ab,", 4);
        map("n1ab1", 4);
        map("n1abcd;e0,0,1,1,1", NONE);
        map("e0,0,1,1,1;n0a;n9z", NONE);
        map("n 1 ab ; e 0 , 0 , 1 , 1 , 1 ;  n   2   zzzz  ", NONE);
        map("n1a;n1b", 5);
        map("n1a;n 1", 6);
        map("n0a;e0,0,1,1,1;n2b;n0c", 20);
        map("n0a;n1a;n2a;n3a;n4a;n5a;n6a;n7a;n8a;n9a;e0,0,1,1,1", NONE);
        map("n1abcde0,0,1,1,1", 6);
    }

    private static void promise4Scripts() {
        script("", 0);
        script("  ", 2);
        script("d", 1);
        script("d1", NONE);
        script("d23", NONE);
        script("d24", 2);
        script("d024", 3);
        script("d100", 3);
        script("d-1", 1);
        script("d1,", 2);
        script("d1 2", 3);
        script("d1;", 3);
        script("d1;;", 3);
        script(";", 0);
        script("d1;x", 3);
        script("r23,9", NONE);
        script("r00,00", NONE);
        script("r24,9", 2);
        script("r1", 2);
        script("r1;", 2);
        script("r1,", 3);
        script("r1,10", 4);
        script("r1,100", 5);
        script("r1,2,", 4);
        script("r-1,2", 1);
        script("m1,1", NONE);
        script("m-63,63", NONE);
        script("m63,-63", NONE);
        script("m-0,-00", NONE);
        script("m-64,0", 3);
        script("m64,0", 2);
        script("m1,64", 4);
        script("m1,-64", 5);
        script("m-640,1", 4);
        script("m- 1,1", 2);
        script("m - 1,1", 3);
        script("m -1 , -1 ", NONE);
        script("m--1,1", 2);
        script("m1,--1", 4);
        script("m1,- 1", 4);
        script("m-", 2);
        script("m1,-", 4);
        script("m1-,1", 2);
        script("m+1,1", 1);
        script("m,1", 1);
        script("m1 -1", 3);
        script("a0,0,63,63,9", NONE);
        script("a 9 , 8 , 7 , 6 , 5 ", NONE);
        script("a0,0,64,63,9", 6);
        script("a0,0,63,63,10", 12);
        script("a0,0,63,63", 10);
        script("a-1,0,1,1,1", 1);
        script("e0,0,1,1,1", 0);
        script("n1a", 0);
        script(" d 1 ; r 1 , 2 ; m - 1", 20);
        script(" d 1 ; r 1 , 2 ; m -1,0;a1,2,3,4,5", NONE);
        SlabMap x = new SlabMap();
        Check.tape(x, "d1");
        Check.same("no such sort", x.fault(2), -2);
        Check.same("no such sort", x.fault(-1), -2);
        Check.same("no such sort", x.fault(Integer.MIN_VALUE), -2);
        Check.same("no such sort", x.fault(Integer.MAX_VALUE), -2);
    }

    private static void promise4Longest() {
        String steps = "d1;".repeat(11) + "d1";
        script(steps, NONE);
        script(steps + ";d1", 35);
        script(steps + ";", 35);
        script(steps + "  ;x", 37);
        script(steps + "x", 35);
        String edges = "e0,0,1,0,1;".repeat(23) + "e0,0,1,0,1";
        map(edges, NONE);
        map(edges + ";n1a", NONE);
        map(edges + ";e", 264);
        map(edges + "; e0,0,1,0,1", 265);
        map(edges + ";", 264);
        map(edges + ";n1a;e", 268);
        map("n1a;" + edges + ";n1a", 269);
    }

    private static void promise5Maps() {
        SlabMap x = new SlabMap();
        Check.tape(x, "e10,10,40,10,1;e5,5,5,9,2;e9,5,5,9,2;e20,0,30,20,3;e10,10,40,20,4;e0,5,63,20,9");
        Check.same("edges told", x.text(0), 2);
        Check.same("the tape is empty", x.count(2), 0);
        Check.same("edge 0", x.edge(0, 0), 10);
        Check.same("an edge that can't be has no number", x.edge(1, 4), 4);
        Check.noEdge(x, 2, 0);
        Check.same("an edge told is no act", x.count(4), 0);
        Check.same("an edge left out is no refused act", x.status(2) + x.status(3), 0);
        Check.same("an empty tape is no map", x.text(0), NONE);
        Check.same("no such sort", x.text(2), NONE);
        Check.same("no such sort", x.text(-1), NONE);
        Check.same("the map is still there", x.rule(0), 2);
        Check.tape(x, "e1,2,3,4,5;");
        Check.same("a fault", x.text(0), NONE);
        Check.same("the tape stays", x.count(2), 11);
        Check.same("no such sort lets it stay", x.text(7) + x.count(2), NONE + 11);
        Check.tape(x, "e1,2,1,4,5");
        Check.same("a map without an edge", x.text(0), 0);
        Check.same("it is one", x.rule(0), 0);
        StringBuilder rows = new StringBuilder("e0,0,1,0,1");
        for (int y = 1; y < 24; y++) {
            rows.append(";e0,").append(y).append(",1,").append(y).append(",1");
        }
        Check.tape(x, rows.toString());
        Check.same("24 edges", x.text(0), 24);
    }

    private static void promise5WhatGoes() {
        SlabMap x = Check.mapOf("e10,10,40,10,1;n1ab;n2c");
        x.add(10, 20, 40, 20, 2);
        x.tell(0, 3);
        x.drop(9);
        x.image();
        Check.script(x, "d0;d1");
        Check.tape(x, "e0,0,5,0,1;n3d");
        Check.same("another map", x.text(0), 1);
        Check.same("its edges", x.count(0), 1);
        Check.same("its names", x.name(1, NONE), 0);
        Check.same("its names", x.name(3, NONE), 1);
        Check.same("names told", x.rule(3), 1);
        Check.same("no log", x.count(3), 0);
        Check.same("no log", x.log(0, 0), HIDDEN);
        Check.same("no act to be undone", x.count(4), 0);
        Check.same("undo", x.undo(), NONE);
        Check.same("no ago", x.at(1, 0, 0, 1), NONE);
        Check.same("no image of this map", x.back(), NONE);
        Check.same("scripts stay", x.count(1), 1);
        Check.same("status stays", x.status(0), 1);
    }

    private static void promise5Scripts() {
        SlabMap x = new SlabMap();
        for (int i = 0; i < 4; i++) {
            Check.same("scripts so far", x.count(1), i);
            Check.same("a script's number", Check.script(x, "d" + i), i);
            Check.same("the tape is empty", x.count(2), 0);
            Check.same("a fault", Check.script(x, "d"), NONE);
            Check.same("the tape stays", x.count(2), 1);
        }
        Check.same("there are four", Check.script(x, "d9"), NONE);
        Check.same("the tape stays", x.count(2), 2);
        Check.same("four", x.count(1), 4);
        for (int i = 0; i < 4; i++) {
            Check.same("each as it was told", x.step(i, 0, 1), i);
        }
        Check.same("a map is told yet", Check.tape(x, "e0,0,1,1,1") + x.text(0), 11);
    }

    private static void promise31() {
        SlabMap x = Check.mapOf("e0,0,1,1,1;n0a;n9wxyz;n 4 bc");
        Check.same("name(0)", x.name(0, NONE), 1);
        Check.same("name(0, 0)", x.name(0, 0), 'a');
        Check.same("name(0, 1)", x.name(0, 1), NONE);
        Check.same("name(9)", x.name(9, NONE), 4);
        Check.same("name(9, 0)", x.name(9, 0), 'w');
        Check.same("name(9, 3)", x.name(9, 3), 'z');
        Check.same("name(9, 4)", x.name(9, 4), NONE);
        Check.same("name(4)", x.name(4, NONE), 2);
        Check.same("name(4, 1)", x.name(4, 1), 'c');
        Check.same("without", x.name(5, NONE), 0);
        Check.same("without", x.name(5, 0), NONE);
        Check.same("i -2", x.name(9, -2), NONE);
        Check.same("i MAX", x.name(9, Integer.MAX_VALUE), NONE);
        Check.same("i MIN", x.name(9, Integer.MIN_VALUE), NONE);
        Check.same("region 10", x.name(10, NONE), NONE);
        Check.same("region -1", x.name(-1, NONE), NONE);
        Check.same("region MAX", x.name(Integer.MAX_VALUE, 0), NONE);
        Check.tape(x, "e0,0,1,1,1;n9a;n9b");
        x.text(0);
        Check.same("a fault lets the names stay", x.name(9, NONE), 4);
        x.tell(0, 2);
        x.undo();
        Check.same("acts let the names stay", x.name(9, 0), 'w');
    }

    private static void promise32() {
        SlabMap x = new SlabMap();
        Check.script(x, "a1,2,3,4,5;d6;r7,8;m-9,10;m-0,-63");
        int[][] due = {
            {0, 1, 2, 3, 4, 5},
            {1, 6, HIDDEN, HIDDEN, HIDDEN, HIDDEN},
            {2, 7, 8, HIDDEN, HIDDEN, HIDDEN},
            {3, -9, 10, HIDDEN, HIDDEN, HIDDEN},
            {3, 0, -63, HIDDEN, HIDDEN, HIDDEN}};
        for (int i = 0; i < due.length; i++) {
            for (int what = 0; what < 6; what++) {
                Check.same("step(0, " + i + ", " + what + ")", x.step(0, i, what), due[i][what]);
            }
            Check.same("what 6", x.step(0, i, 6), HIDDEN);
            Check.same("what -1", x.step(0, i, -1), HIDDEN);
        }
        Check.same("step 5", x.step(0, 5, 0), HIDDEN);
        Check.same("step -1", x.step(0, -1, 0), HIDDEN);
        Check.same("step MAX", x.step(0, Integer.MAX_VALUE, 0), HIDDEN);
        Check.same("script 1", x.step(1, 0, 0), HIDDEN);
        Check.same("script -1", x.step(-1, 0, 0), HIDDEN);
        Check.same("script MIN", x.step(Integer.MIN_VALUE, 0, 0), HIDDEN);
        Check.script(x, "d1;".repeat(11) + "r23,9");
        Check.same("the twelfth step", x.step(1, 11, 0), 2);
        Check.same("the twelfth step", x.step(1, 11, 2), 9);
        Check.same("no thirteenth", x.step(1, 12, 0), HIDDEN);
        Check.tape(x, "r1,1");
        x.fault(1);
        Check.same("what is read only lets scripts stay", x.step(0, 0, 0), 0);
    }
}
