/**
 * The document's section 1 and its promises 1 to 5, 31, 32, sentence by sentence: the cases at the bounds that each
 * one names, on either side of them.
 */
public final class TextBoundsTest {
    private static final int NONE = SlabMap.NONE;
    private static final int HIDDEN = SlabMap.HIDDEN;
    private static final int MIN = Integer.MIN_VALUE;
    private static final int MAX = Integer.MAX_VALUE;
    private static final int MAP = 0;
    private static final int SCRIPT = 1;
    private static final String DIGITS = "0123456789";
    private static final String LETTERS = "abcdefghijklmnopqrstuvwxyz";
    private static final String EDGE = "e0,0,1,0,0";

    public static void main(String[] args) {
        clauses();
        edges();
        howManyEdges();
        names();
        scripts();
        stepsAdded();
        stepsGone();
        stepsTold();
        stepsMoved();
        digits();
        blanks();
        noBlanks();
        endsTooEarly();
        outOfBounds();
        thirdDigits();
        fifthLetters();
        edgesTooMany();
        namesTwice();
        stepsTooMany();
        stepsThatCanNotBe();
        edgesThatCanNotBe();
        newObject();
        feed();
        feedTooMuch();
        end();
        fault();
        textOfMap();
        textOfScript();
        textRefused();
        name();
        step();
        Check.close("TextBoundsTest");
    }

    // ---- what is asked here ----

    private static int faultOf(int sort, String text) {
        SlabMap x = new SlabMap();
        Check.tape(x, text);
        return x.fault(sort);
    }

    /** The fault of a text, and that it is taken only without one. */
    private static void fault(int sort, String text, int due) {
        SlabMap x = new SlabMap();
        Check.tape(x, text);
        Check.same("fault(" + sort + ") of [" + text + "]", x.fault(sort), due);
        int taken = x.text(sort);
        Check.same("[" + text + "] is taken", taken == NONE ? 0 : 1, due == NONE ? 1 : 0);
        Check.same("bytes left of [" + text + "]", x.count(2), due == NONE ? 0 : text.length());
    }

    /** With which signs of all 255 a text that has no fault but its end can go on. */
    private static void goesOn(int sort, String text, String signs) {
        int fault = faultOf(sort, text);
        Check.yes("[" + text + "] can go on", fault == NONE || fault == text.length());
        for (int sign = 1; sign < 256; sign++) {
            fault = faultOf(sort, text + (char) sign);
            boolean wrongHere = fault == text.length();
            Check.same("[" + text + "] goes on with " + sign, wrongHere ? 0 : 1, signs.indexOf(sign) >= 0 ? 1 : 0);
            Check.yes("[" + text + "] with " + sign, wrongHere || fault == NONE || fault == text.length() + 1);
        }
    }

    /** The number of which the text lacks the digits is 0 to 63, with this behind it. */
    private static void goesOnTo63(int sort, String text, String behind) {
        goesOn(sort, text + "5", behind + DIGITS);
        goesOn(sort, text + "6", behind + "0123");
        goesOn(sort, text + "7", behind);
        goesOn(sort, text + "63", behind);
        goesOn(sort, text + "00", behind);
    }

    private static void goesOnTo9(int sort, String text, String behind) {
        goesOn(sort, text + "0", behind + DIGITS);
        goesOn(sort, text + "1", behind);
        goesOn(sort, text + "9", behind);
        goesOn(sort, text + "09", behind);
    }

    private static void goesOnTo23(int sort, String text, String behind) {
        goesOn(sort, text + "1", behind + DIGITS);
        goesOn(sort, text + "2", behind + "0123");
        goesOn(sort, text + "3", behind);
        goesOn(sort, text + "23", behind);
    }

    private static String times(String part, int n) {
        StringBuilder parts = new StringBuilder(part);
        for (int i = 1; i < n; i++) {
            parts.append(';').append(part);
        }
        return parts.toString();
    }

    // ---- section 1 ----

    private static void clauses() {
        Check.of("A MAP is a TEXT: CLAUSES with ; between");
        goesOn(MAP, "", " en");
        goesOn(MAP, EDGE + " ", " ;");
        goesOn(MAP, EDGE + ";", " en");
        fault(MAP, EDGE, NONE);
        fault(MAP, ";" + EDGE, 0);
        fault(MAP, EDGE + ";;" + EDGE, 11);
        fault(MAP, EDGE + EDGE, 10);
        fault(MAP, EDGE + ";" + EDGE, NONE);
        Check.of("in any order");
        fault(MAP, "n1a;" + EDGE, NONE);
        fault(MAP, EDGE + ";n1a;" + EDGE + ";n0b", NONE);
    }

    private static void edges() {
        Check.of("e and five numbers with , between");
        goesOn(MAP, "e", " " + DIGITS);
        goesOn(MAP, "e0 ", " ,");
        goesOn(MAP, "e0,", " " + DIGITS);
        goesOn(MAP, "e0,0,0,0 ", " ,");
        goesOn(MAP, "e0,0,0,0,", " " + DIGITS);
        fault(MAP, "e0,0,0,0", 8);
        fault(MAP, "e0,0,0,0,0,0", 10);
        Check.of("X, Y, X, Y: 0 .. 63 each");
        for (String text : new String[] {"e", "e0,", "e0,0,", "e0,0,0,"}) {
            goesOnTo63(MAP, text, " ,");
        }
        Check.of("REGION 0 .. 9");
        goesOnTo9(MAP, "e0,0,0,0,", " ;");
        SlabMap x = Check.mapOf("e0,63,63,0,9");
        int[] due = {0, 63, 63, 0, 9};
        for (int what = 0; what < 5; what++) {
            Check.same("edge(0, " + what + ")", x.edge(0, what), due[what]);
        }
    }

    private static void howManyEdges() {
        Check.of("1 to 24 of these");
        fault(MAP, "n1a", 3);
        fault(MAP, "n1a;" + EDGE, NONE);
        goesOn(MAP, times(EDGE, 23) + ";", " en");
        goesOn(MAP, times(EDGE, 24) + ";", " n");
        StringBuilder rows = new StringBuilder("e0,0,63,0,1");
        for (int y = 1; y < 24; y++) {
            rows.append(";e0,").append(y).append(",63,").append(y).append(",1");
        }
        SlabMap x = new SlabMap();
        Check.tape(x, rows.toString());
        Check.same("24 edges", x.text(0), 24);
        Check.same("the last one", x.edge(23, 1), 23);
    }

    private static void names() {
        Check.of("n, a digit and letters (a to z, 1 to 4: the NAME of that REGION, each once at most)");
        goesOn(MAP, "n", " " + DIGITS);
        goesOn(MAP, "n0", " " + LETTERS);
        goesOn(MAP, "n9", " " + LETTERS);
        goesOn(MAP, "n9 ", " " + LETTERS);
        goesOn(MAP, "n9a", " ;" + LETTERS);
        goesOn(MAP, "n9abz", " ;" + LETTERS);
        goesOn(MAP, "n9abcd", " ;");
        goesOn(MAP, "n0a;n", " 123456789");
        goesOn(MAP, "n9a;n5z;n", " 01234678");
        goesOn(MAP, "n0a;n1a;n2a;n3a;n4a;n5a;n6a;n7a;n8a;n", " 9");
        SlabMap x = Check.mapOf("n0a;n1a;n2a;n3a;n4a;n5a;n6a;n7a;n8az;" + EDGE + ";n9zyxw");
        Check.same("all ten names", x.rule(3), 10);
        Check.same("z of az", x.name(8, 1), 'z');
        Check.same("w of zyxw", x.name(9, 3), 'w');
    }

    private static void scripts() {
        Check.of("SCRIPTS (4 at most) are TEXTS");
        SlabMap x = new SlabMap();
        for (int i = 0; i < 4; i++) {
            Check.same("script " + i, Check.script(x, "d" + i), i);
        }
        Check.same("a fifth", Check.script(x, "d4"), NONE);
        Check.same("four", x.count(1), 4);
        Check.same("the fourth", x.step(3, 0, 1), 3);
        Check.of("STEPS with ; between, 1 to 12");
        goesOn(SCRIPT, "", " adrm");
        goesOn(SCRIPT, "d1 ", " ;");
        goesOn(SCRIPT, "d1;", " adrm");
        goesOn(SCRIPT, times("d1", 10) + ";d1 ", " ;");
        goesOn(SCRIPT, times("d1", 11) + ";", " adrm");
        goesOn(SCRIPT, times("d1", 11) + ";d1 ", " ");
        fault(SCRIPT, "", 0);
        fault(SCRIPT, times("d1", 12), NONE);
        fault(SCRIPT, times("d1", 13), 35);
    }

    private static void stepsAdded() {
        Check.of("a and five numbers likewise (ADDED)");
        goesOn(SCRIPT, "a", " " + DIGITS);
        goesOn(SCRIPT, "a0,", " " + DIGITS);
        goesOn(SCRIPT, "a0,0,0,0 ", " ,");
        for (String text : new String[] {"a", "a0,", "a0,0,", "a0,0,0,"}) {
            goesOnTo63(SCRIPT, text, " ,");
        }
        goesOnTo9(SCRIPT, "a0,0,0,0,", " ;");
    }

    private static void stepsGone() {
        Check.of("d and a number (0 .. 23; GONE)");
        goesOn(SCRIPT, "d", " " + DIGITS);
        goesOnTo23(SCRIPT, "d", " ;");
        goesOn(SCRIPT, "d0", " ;" + DIGITS);
    }

    private static void stepsTold() {
        Check.of("r and two numbers with , between (0 .. 23, 0 .. 9: that EDGE has that REGION)");
        goesOn(SCRIPT, "r", " " + DIGITS);
        goesOnTo23(SCRIPT, "r", " ,");
        goesOn(SCRIPT, "r0,", " " + DIGITS);
        goesOnTo9(SCRIPT, "r23,", " ;");
    }

    private static void stepsMoved() {
        Check.of("m and two numbers with , between, each with a - or without (0 .. 63; MOVED)");
        goesOn(SCRIPT, "m", " -" + DIGITS);
        goesOn(SCRIPT, "m-", DIGITS);
        goesOnTo63(SCRIPT, "m", " ,");
        goesOnTo63(SCRIPT, "m-", " ,");
        goesOn(SCRIPT, "m0,", " -" + DIGITS);
        goesOn(SCRIPT, "m0,-", DIGITS);
        goesOnTo63(SCRIPT, "m0,", " ;");
        goesOnTo63(SCRIPT, "m0,-", " ;");
        SlabMap x = new SlabMap();
        Check.script(x, "m-63,63;m63,-63;m-0,-00");
        Check.same("the least", x.step(0, 0, 1), -63);
        Check.same("the greatest", x.step(0, 0, 2), 63);
        Check.same("the greatest", x.step(0, 1, 1), 63);
        Check.same("the least", x.step(0, 1, 2), -63);
        Check.same("-0", x.step(0, 2, 1), 0);
        Check.same("-00", x.step(0, 2, 2), 0);
    }

    private static void digits() {
        Check.of("Numbers are of one or two digits.");
        SlabMap x = Check.mapOf("e00,1,02,10,03;e3,09,63,9,09");
        int[] due = {0, 1, 2, 10, 3, 3, 9, 63, 9, 9};
        for (int i = 0; i < 10; i++) {
            Check.same("number " + i, x.edge(i / 5, i % 5), due[i]);
        }
        fault(MAP, "e,", 1);
        fault(MAP, "e000,", 3);
        fault(SCRIPT, "d001", 3);
        fault(SCRIPT, "m-001,1", 4);
    }

    private static void blanks() {
        Check.of("Blanks (32) may stand between all signs of both");
        fault(MAP, "  e  0  ,  0  ,  1  ,  0  ,  0  ;  n  1  ab  ;  e 1,2, 3,4 ,5  ", NONE);
        fault(SCRIPT, "  a  0  ,  0  ,  1  ,  0  ,  0  ;  d  1  ;  r  1  ,  2  ;  m  -1  ,  -2  ", NONE);
        fault(MAP, " ".repeat(470) + EDGE, NONE);
        SlabMap x = new SlabMap();
        Check.script(x, " m  -1  ,  -2  ");
        Check.same("the numbers are as without", x.step(0, 0, 1) * 10 + x.step(0, 0, 2), -12);
        x = Check.mapOf(" e 10 , 20 , 30 , 40 , 5 ; n 1 ab ");
        Check.same("the numbers are as without", x.edge(0, 2), 30);
        Check.same("the name is as without", x.name(1, NONE) * 1000 + x.name(1, 1), 2098);
        for (char no : new char[] {9, 10, 12, 13, 31, 33, 160}) {
            fault(MAP, "e0,0" + no + ",1,0,0", 4);
            fault(SCRIPT, no + "d1", 0);
        }
    }

    private static void noBlanks() {
        Check.of("not within a number, nor a NAME, nor behind a -");
        fault(MAP, "e1 0,0,1,0,0", 3);
        fault(MAP, EDGE + " 0", 11);
        fault(MAP, "n1a b;" + EDGE, 4);
        fault(MAP, "n1abc  d;" + EDGE, 7);
        fault(SCRIPT, "d2 3", 3);
        fault(SCRIPT, "m- 1,0", 2);
        fault(SCRIPT, "m0,- 1", 4);
        fault(SCRIPT, "m0,-1 1", 6);
    }

    private static void endsTooEarly() {
        Check.of("the first byte at which no such TEXT can go on (the length, if it ends too early, or without an e)");
        String map = "n1ab; e10, 2,63,0,9 ;n 0 z";
        String script = "a0,63,10,1,0; d23;m -6,-63 ;r 9,9";
        // behind these many bytes what is told is whole
        boolean[] wholeMap = new boolean[map.length() + 1];
        for (int n : new int[] {19, 20, 26}) {
            wholeMap[n] = true;
        }
        boolean[] wholeScript = new boolean[script.length() + 1];
        for (int n : new int[] {12, 16, 17, 25, 26, 27, 33}) {
            wholeScript[n] = true;
        }
        for (int n = 0; n <= map.length(); n++) {
            fault(MAP, map.substring(0, n), wholeMap[n] ? NONE : n);
        }
        for (int n = 0; n <= script.length(); n++) {
            fault(SCRIPT, script.substring(0, n), wholeScript[n] ? NONE : n);
        }
        fault(MAP, "n0a;n1b ", 8);
        fault(MAP, "    ", 4);
        fault(SCRIPT, "    ", 4);
        fault(MAP, "d1", 0);
        fault(SCRIPT, EDGE, 0);
        fault(MAP, "ex;n1,", 1);
        // the first of several, though what comes behind it is told otherwise
        fault(MAP, "e1 64", 3);
        fault(MAP, "e1 640", 3);
        fault(MAP, "e1,2,3,4,10;e64;n1abcde", 10);
        fault(MAP, "n1;n1a;n1b", 2);
        fault(SCRIPT, "m- 64,0", 2);
        fault(SCRIPT, "m--64,0", 2);
        fault(SCRIPT, "r1;24", 2);
        fault(SCRIPT, "d24;" + times("d1", 12), 2);
        fault(SCRIPT, "d;" + times("d1", 12), 1);
        fault(SCRIPT, "d24;" + times("d", 12), 2);
        fault(SCRIPT, times("d", 13), 1);
    }

    private static void outOfBounds() {
        Check.of("a number out of bounds is wrong at its last digit");
        fault(MAP, "e64,0,1,0,0", 2);
        fault(MAP, "e64", 2);
        fault(MAP, "e0,0,1,99 ,0", 8);
        fault(MAP, "e0,0,1,0,10", 10);
        fault(SCRIPT, "d24;d99", 2);
        fault(SCRIPT, "r0,10", 4);
        fault(SCRIPT, "m-64,0", 3);
        fault(SCRIPT, "m0, 64;", 5);
    }

    private static void thirdDigits() {
        Check.of("a third digit itself, whatever stands ahead of it");
        fault(MAP, "e100,0,1,0,0", 3);
        fault(MAP, "e630", 3);
        fault(MAP, "e640", 3);
        fault(MAP, "e999999", 3);
        fault(MAP, "e0,0,1,0,000", 11);
        fault(MAP, "e0,0,1,0,100", 11);
        fault(SCRIPT, "d230", 3);
        fault(SCRIPT, "d240", 3);
        fault(SCRIPT, "r00,099", 6);
        fault(SCRIPT, "m-990,0", 4);
        fault(SCRIPT, "m0,-123", 6);
    }

    private static void fifthLetters() {
        Check.of("a fifth letter");
        fault(MAP, EDGE + ";n1abcd", NONE);
        fault(MAP, EDGE + ";n1abcde", 17);
        fault(MAP, EDGE + ";n 1 abcdefgh", 19);
    }

    private static void edgesTooMany() {
        Check.of("a 25th e");
        fault(MAP, times(EDGE, 24), NONE);
        fault(MAP, times(EDGE, 25), 264);
        fault(MAP, times(EDGE, 24) + "; e", 265);
        fault(MAP, times(EDGE, 24) + ";n1a;e", 268);
        fault(MAP, times(EDGE, 24) + ";n1a", NONE);
        fault(MAP, times("e5,0,5,0,0", 24) + ";" + EDGE, 264);
    }

    private static void namesTwice() {
        Check.of("the digit of a REGION that has its NAME");
        fault(MAP, "n1a;n1", 5);
        fault(MAP, "n1a;n 1", 6);
        fault(MAP, EDGE + ";n0ab;n0ab", 17);
        fault(MAP, "n9a;n8a;" + EDGE + ";n9a", 20);
    }

    private static void stepsTooMany() {
        Check.of("the ; ahead of a 13th STEP");
        fault(SCRIPT, times("d1", 12) + ";", 35);
        fault(SCRIPT, times("d1", 12) + "  ; d1", 37);
        fault(SCRIPT, times("d1", 12) + ",", 35);
        fault(SCRIPT, times("m-1,-1", 12) + ";m", 83);
    }

    private static void stepsThatCanNotBe() {
        Check.of("What a STEP tells that can't be is no FAULT");
        SlabMap x = Check.mapOf("e0,0,63,0,1");
        String[] no = {"a5,5,5,9,1", "a0,0,63,0,1", "d1;r1,1;r0,1", "m0,0;m1,0;m0,-1"};
        for (int i = 0; i < 4; i++) {
            Check.tape(x, no[i]);
            Check.same("fault", x.fault(1), NONE);
            Check.same("its number", x.text(1), i);
            Check.same("it can't be", x.run(i, 0), 0);
        }
    }

    private static void edgesThatCanNotBe() {
        Check.of("an EDGE of a MAP that can't be ADDED when it is told is left out: it has no number");
        SlabMap x = new SlabMap();
        // not to the right, across the first, across the one left out, not to the right, clear
        Check.tape(x, "e0,10,40,10,1;e9,9,9,11,2;e0,0,20,20,3;e0,5,9,0,4;e40,5,39,5,5;e0,11,40,11,6");
        Check.same("three are left", x.text(0), 3);
        Check.same("the first", x.edge(0, 4), 1);
        Check.same("the one across what was left out", x.edge(1, 4), 4);
        Check.same("the last one", x.edge(2, 4), 6);
        Check.noEdge(x, 3, 0);
        Check.same("no status", x.status(2) + x.status(3), 0);
        Check.tape(x, times("e5,0,5,0,0", 23) + ";e0,0,1,0,7");
        Check.same("23 are left out", x.text(0), 1);
        Check.same("the last one", x.edge(0, 4), 7);
        Check.tape(x, times("e5,0,5,0,0", 24));
        Check.same("all are left out", x.text(0), 0);
        Check.same("a map all the same", x.rule(0), 0);
    }

    // ---- promises ----

    private static void newObject() {
        Check.of("No MAP.");
        SlabMap x = new SlabMap();
        Check.same("rule", x.rule(0), NONE);
        Check.same("points", x.points(0, 0), NONE);
        Check.same("at", x.at(0, 0, 0, 1), NONE);
        Check.same("like", x.like(0, 0), NONE);
        Check.same("way", x.way(0, 0, 1, 1, NONE), NONE);
        Check.same("add", x.add(0, 0, 1, 0, 1), NONE);
        Check.same("the acts refused", x.status(0), 1);
        Check.of("The constants");
        Check.same("NONE", SlabMap.NONE, -1);
        Check.same("HIDDEN", SlabMap.HIDDEN, -1000000);
    }

    private static void feed() {
        Check.of("Twenty bytes more come to the TAPE (of each number the highest first; bytes of 0 are left out)");
        SlabMap x = new SlabMap();
        Check.same("none", x.feed(0, 0, 0, 0, 0), 0);
        Check.same("twenty", x.feed(0x65302c30, 0x2c312c30, 0x2c303b65, 0x302c302c, 0x312c302c), 20);
        Check.same("it ends ahead of the last number", x.fault(0), 20);
        Check.same("the last byte of the last number", x.feed(0, 0, 0, 0, '1'), 21);
        Check.same("two edges", x.text(0), 1);
        Check.same("the first of them alone can be", x.edge(0, 4), 0);
        for (int shift = 0; shift < 32; shift += 8) {
            Check.same("one byte: 0 around it", x.feed(0, 0, 'd' << shift, 0, 0), 1);
            Check.same("it is a d", x.fault(1), 1);
            Check.same("0 between two", x.feed(0, '1' << shift, 0, ';' << shift, 0), 3);
            Check.same("d1;", x.fault(1), 3);
            x.end(0);
        }
        Check.same("bytes of 255 and 128", x.feed(-1, MIN, 0, 0x80, 0xff00ff), 4 + 1 + 1 + 2);
        x.end(0);
        Check.same("d2, then 255 of a number below 0", x.feed('d' << 24 | '2' << 16, -1 << 24, 0, 0, 0), 3);
        Check.same("it is there", x.fault(1), 2);
    }

    private static void feedTooMuch() {
        Check.of("how many it has. NONE: more than 480.");
        SlabMap x = new SlabMap();
        for (int i = 1; i <= 24; i++) {
            Check.same("feed " + i, x.feed(0x20202020, 0x20202020, 0x20202020, 0x20202020, 0x20202020), 20 * i);
        }
        Check.same("the 481st", x.feed(0, 0, 0, 0, ' '), NONE);
        Check.same("none more", x.feed(0, 0, 0, 0, 0), 480);
        Check.same("480 blanks", x.fault(0), 480);
        x.end(479);
        Check.same("two more are too many", x.feed('e', 0, 0, 0, 'e'), NONE);
        Check.same("none of them comes", x.fault(0), 479);
        Check.same("one more", x.feed(0, 0, 0, 'x', 0), 480);
        Check.same("the 480th", x.fault(0), 479);
        for (int shift = 0; shift < 32; shift += 8) {
            for (int sign : new int[] {1, 0x80, 0x81, 0xff}) {
                Check.same("the 481st", x.feed(0, sign << shift, 0, 0, 0), NONE);
                x.end(479);
                Check.same("two of two numbers", x.feed(sign << shift, 0, 0, 0, sign << shift), NONE);
                Check.same("the 480th", x.feed(0, 0, sign << shift, 0, 0), 480);
            }
        }
        x.end(460);
        Check.same("twenty more", x.feed(-1, -1, -1, -1, -1), 480);
        x.end(461);
        Check.same("twenty more", x.feed(-1, -1, -1, -1, -1), NONE);
        Check.same("nineteen more", x.feed(-1, -1, 0xffffff, -1, -1), 480);
        Check.same("all of it", x.count(2), 480);
    }

    private static void end() {
        Check.of("The TAPE has its first n bytes alone. False: n.");
        SlabMap x = new SlabMap();
        Check.yes("none of none", x.end(0));
        Check.no("one of none", x.end(1));
        Check.tape(x, "d1;r2,3");
        for (int no : new int[] {8, 9, 480, 481, MAX, -1, MIN}) {
            Check.no("end(" + no + ")", x.end(no));
            Check.same("all seven are left", x.count(2), 7);
        }
        Check.yes("all", x.end(7));
        Check.same("r2,3 is the second", x.fault(1), NONE);
        Check.yes("six", x.end(6));
        Check.same("without the last", x.fault(1), 6);
        Check.no("it is gone", x.end(7));
        Check.yes("two", x.end(2));
        Check.same("d1", x.fault(1), NONE);
        Check.yes("one", x.end(1));
        Check.yes("none", x.end(0));
        Check.same("none", x.count(2), 0);
    }

    private static void fault() {
        Check.of("The FAULT of the TAPE as a MAP (0), a SCRIPT (1). NONE: none. -2: no such sort.");
        SlabMap x = new SlabMap();
        Check.tape(x, EDGE);
        Check.same("as a map", x.fault(0), NONE);
        Check.same("as a script", x.fault(1), 0);
        Check.tape(x, "a0,0,1,0,0");
        Check.same("as a map", x.fault(0), 0);
        Check.same("as a script", x.fault(1), NONE);
        Check.tape(x, "n1a;n2");
        Check.same("again as it was", x.fault(0), 6);
        Check.same("again as it was", x.fault(0), 6);
        for (int no : new int[] {2, 3, -1, -2, MIN, MAX}) {
            Check.same("fault(" + no + ")", x.fault(no), -2);
        }
    }

    private static void textOfMap() {
        Check.of("The TAPE (empty then) is the MAP (all that was of another one is gone but SCRIPTS, STATUS)");
        SlabMap x = Check.mapOf("e10,10,40,10,1;e0,20,9,20,2;n1ab;n9c");
        x.add(10, 20, 40, 20, 2);
        x.drop(9);
        x.add(0, 0, 64, 0, 0);
        x.tell(0, 1);
        x.move(0, 63);
        x.image();
        Check.script(x, "d0;d1");
        Check.same("slabs of the first one", x.rule(1), 3);
        Check.same("the list of the last", x.slab(2, 2), 2);
        Check.tape(x, "e1,0,6,0,4");
        Check.same("text(0)", x.text(0), 1);
        Check.same("the tape is empty", x.count(2), 0);
        Check.same("edges", x.count(0), 1);
        Check.same("slabs", x.rule(1), 1);
        Check.same("its slab", x.slab(0, 0) * 10 + x.slab(0, 1), 16);
        Check.same("its list", x.list(0, 0), 0);
        Check.same("a point", x.at(0, 3, 3, 1), 4);
        Check.same("names", x.rule(3) + x.name(1, NONE) + x.name(9, NONE), 0);
        Check.same("a letter", x.name(9, 0), NONE);
        Check.same("the log", x.count(3), 0);
        Check.same("acts to be undone", x.count(4), 0);
        Check.same("undo", x.undo(), NONE);
        Check.same("ago", x.at(1, 3, 3, 1), NONE);
        Check.same("the image", x.back(), NONE);
        Check.same("the script", x.step(0, 1, 1), 1);
        for (int what = 0; what < 4; what++) {
            Check.same("status(" + what + ")", x.status(what), 1);
        }
        Check.of("how many EDGES");
        Check.tape(x, times("e5,0,5,0,0", 24));
        Check.same("none of 24", x.text(0), 0);
        Check.tape(x, "e0,0,9,0,0;e5,0,9,0,0;e0,1,9,1,0");
        Check.same("two of three", x.text(0), 2);
    }

    private static void textOfScript() {
        Check.of("a SCRIPT: its number");
        SlabMap x = Check.mapOf(EDGE);
        x.tell(0, 5);
        Check.same("the first", Check.script(x, "d0"), 0);
        Check.same("the tape is empty", x.count(2), 0);
        Check.same("the second", Check.script(x, "r0,1;d0"), 1);
        Check.same("the first is as it was", x.step(0, 0, 0), 1);
        Check.same("the map is as it was", x.edge(0, 4) * 10 + x.count(4), 51);
    }

    private static void textRefused() {
        Check.of("NONE: a FAULT (the TAPE stays), no such sort, there are four SCRIPTS.");
        SlabMap x = Check.mapOf("e0,0,1,0,3;n3c");
        Check.same("an empty tape", x.text(0), NONE);
        Check.same("an empty tape", x.text(1), NONE);
        Check.tape(x, "n4d;e0,0,9,0,9;e");
        Check.same("a fault", x.text(0), NONE);
        Check.same("a fault", x.text(1), NONE);
        Check.same("the tape stays", x.count(2), 16);
        Check.same("the map stays", x.edge(0, 4) + x.name(3, NONE) + x.name(4, NONE), 4);
        x.end(14);
        for (int no : new int[] {2, -1, MIN, MAX}) {
            Check.same("text(" + no + ")", x.text(no), NONE);
            Check.same("the tape stays", x.count(2), 14);
        }
        for (int i = 0; i < 4; i++) {
            Check.same("a script", Check.script(x, "d" + i), i);
        }
        Check.tape(x, "r1,1");
        Check.same("a fifth", x.text(1), NONE);
        Check.same("the tape stays", x.count(2), 4);
        Check.same("it has no fault", x.fault(1), NONE);
        Check.same("there is no fifth", x.step(4, 0, 0), HIDDEN);
        Check.tape(x, EDGE);
        Check.same("a map can be told yet", x.text(0), 1);
        Check.same("four scripts", x.count(1), 4);
    }

    private static void name() {
        Check.of("The NAME of a REGION: how many letters (i NONE; 0 without), the i-th. NONE: no such ones.");
        SlabMap x = Check.mapOf("n0a;n9bcdz;" + EDGE);
        Check.same("one letter", x.name(0, NONE), 1);
        Check.same("it", x.name(0, 0), 'a');
        Check.same("no second", x.name(0, 1), NONE);
        Check.same("four letters", x.name(9, NONE), 4);
        Check.same("the first", x.name(9, 0), 'b');
        Check.same("the fourth", x.name(9, 3), 'z');
        Check.same("no fifth", x.name(9, 4), NONE);
        for (int region = 1; region < 9; region++) {
            Check.same("without", x.name(region, NONE), 0);
            Check.same("no letter", x.name(region, 0), NONE);
        }
        for (int no : new int[] {10, -1, MIN, MAX}) {
            Check.same("name(" + no + ", -1)", x.name(no, NONE), NONE);
            Check.same("name(" + no + ", 0)", x.name(no, 0), NONE);
        }
        for (int no : new int[] {-2, MIN, MAX}) {
            Check.same("name(9, " + no + ")", x.name(9, no), NONE);
        }
    }

    private static void step() {
        Check.of("A STEP of a SCRIPT: 0 what (0 a, 1 d, 2 r, 3 m), 1 to 5 its numbers (HIDDEN: there are fewer).");
        SlabMap x = new SlabMap();
        Check.script(x, "a0,63,1,2,9;d23;r22,8;m-63,63");
        int[][] due = {{0, 0, 63, 1, 2, 9}, {1, 23, HIDDEN, HIDDEN, HIDDEN, HIDDEN},
            {2, 22, 8, HIDDEN, HIDDEN, HIDDEN}, {3, -63, 63, HIDDEN, HIDDEN, HIDDEN}};
        for (int i = 0; i < 4; i++) {
            for (int what = 0; what < 6; what++) {
                Check.same("step(0, " + i + ", " + what + ")", x.step(0, i, what), due[i][what]);
            }
        }
        Check.of("HIDDEN: no such ones.");
        for (int no : new int[] {6, -1, MIN, MAX}) {
            Check.same("step(0, 0, " + no + ")", x.step(0, 0, no), HIDDEN);
        }
        for (int no : new int[] {4, 11, 12, -1, MIN, MAX}) {
            Check.same("step(0, " + no + ", 0)", x.step(0, no, 0), HIDDEN);
        }
        for (int no : new int[] {1, 3, 4, -1, MIN, MAX}) {
            Check.same("step(" + no + ", 0, 0)", x.step(no, 0, 0), HIDDEN);
        }
        Check.same("no script", new SlabMap().step(0, 0, 0), HIDDEN);
        for (int i = 1; i < 4; i++) {
            Check.script(x, times("d1", 11) + ";d" + (20 + i));
            Check.same("the twelfth step of script " + i, x.step(i, 11, 1), 20 + i);
            Check.same("no thirteenth", x.step(i, 12, 0), HIDDEN);
        }
    }
}
