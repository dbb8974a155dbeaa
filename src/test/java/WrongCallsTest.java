import java.util.NoSuchElementException;

/**
 * Numbers far out of every bound in every place of every call, in objects of many states: nothing is thrown
 * but what edge may throw, and what is refused changes nothing but the status.
 */
public final class WrongCallsTest {
    private static final int[] ODD = {Integer.MIN_VALUE, Integer.MIN_VALUE + 1, -1000000, -65, -64, -2, -1, 0, 1, 9, 10,
        23, 24, 39, 40, 41, 47, 59, 60, 63, 64, 100, 480, 481, 1 << 16, Integer.MAX_VALUE - 1, Integer.MAX_VALUE};
    private static int calls = 0;

    public static void main(String[] args) {
        for (int state = 0; state < 8; state++) {
            everyOdd(state);
        }
        refusedChangesNothing();
        Check.same("calls were made", calls > 100000 ? 1 : 0, 1);
        Check.close("WrongCallsTest");
    }

    private static SlabMap inState(int state) {
        SlabMap x = new SlabMap();
        if ((state & 1) != 0) {
            Check.tape(x, "e0,10,40,10,1;e10,20,30,40,2;e10,20,30,20,3;n1land");
            x.text(0);
        }
        if ((state & 2) != 0) {
            Check.script(x, "a0,30,5,30,6;r0,9;m-1,0;d1");
            x.ways(40, 5);
            x.image();
            x.ways(40, 6);
            x.ways(40, 7);
        }
        if ((state & 4) != 0) {
            Check.tape(x, "e".repeat(480));
        }
        return x;
    }

    private static void everyOdd(int state) {
        SlabMap x = inState(state);
        for (int a : ODD) {
            one(x, a);
            for (int b : ODD) {
                two(x, a, b);
                for (int c : ODD) {
                    three(x, a, b, c);
                }
            }
        }
    }

    private static void one(SlabMap x, int a) {
        calls += 20;
        x.fault(a);
        x.rule(a);
        x.beside(a);
        x.colours(a);
        x.status(a);
        x.ends(a);
        x.stairs(a);
        x.perform(a);
        x.all(a);
        x.count(a);
        x.ways(a, a);
        x.feed(a, a, a, a, a);
        x.text(a);
        x.end(a);
        x.drop(a);
        x.idle();
        x.undo();
        x.back();
        x.image();
        x.undo();
    }

    private static void two(SlabMap x, int a, int b) {
        calls += 11;
        try {
            x.edge(a, b);
        } catch (NoSuchElementException e) {
            calls++;
        }
        x.slab(a, b);
        x.list(a, b);
        x.points(a, b);
        x.tell(a, b);
        x.move(a, b);
        x.log(a, b);
        x.like(a, b);
        x.near(a, b);
        x.name(a, b);
        x.run(a, b);
    }

    private static void three(SlabMap x, int a, int b, int c) {
        calls += 10;
        x.above(a, b, c);
        x.step(a, b, c);
        x.at(a, b, c, a);
        x.at(0, a, b, c);
        x.way(a, b, c, b, a);
        x.way(b, a, a, c, -1);
        x.blocks(a, b, c, a);
        x.add(a, b, c, b, c);
        x.would(a, b, c, a, b, c);
        x.would(a, b, c, b, 1, -2);
    }

    // ---- refused calls ----

    private static String seen(SlabMap x) {
        StringBuilder seen = new StringBuilder();
        for (int what = 0; what < 6; what++) {
            seen.append(x.rule(what)).append(' ').append(x.all(what)).append(' ').append(x.count(what)).append(' ');
        }
        for (int edge = 0; edge < 24; edge++) {
            for (int what = 0; what < 7; what++) {
                try {
                    seen.append(x.edge(edge, what)).append(' ');
                } catch (NoSuchElementException e) {
                    seen.append("- ");
                }
            }
        }
        for (int i = 0; i < 60; i++) {
            seen.append(x.log(i, 0)).append(x.log(i, 1)).append(x.log(i, 2)).append(' ');
        }
        for (int ago = 0; ago <= 40; ago++) {
            seen.append(x.points(ago, 1)).append(' ').append(x.like(ago, 0)).append(' ');
            seen.append(x.ends(ago)).append(' ');
        }
        for (int i = 0; i < 12; i++) {
            seen.append(x.step(0, i, 0)).append(x.step(0, i, 1)).append(x.name(i, -1)).append(x.name(i, 0));
        }
        return seen.append(x.fault(0)).append(x.fault(1)).toString();
    }

    private static void refusedChangesNothing() {
        SlabMap x = inState(7);
        Check.tape(x, "e1,2,3,4,5;x");
        String before = seen(x);
        int[] status = new int[4];
        for (int i = 0; i < 4; i++) {
            status[i] = x.status(i);
        }
        x.feed(0, 0, 0, 0, 0);
        x.end(13);
        x.end(-1);
        x.text(0);
        x.text(1);
        x.text(2);
        x.add(-1, 0, 1, 1, 1);
        x.add(5, 5, 5, 5, 1);
        x.drop(24);
        x.tell(-1, 5);
        x.move(64, 0);
        x.move(0, 0);
        x.move(63, 63);
        x.ways(0, 5);
        x.ways(41, 5);
        x.perform(9);
        x.run(0, 0);
        x.run(0, 2);
        x.would(0, 0, 63, 1, 5, -2);
        x.would(0, 0, 0, 1, 5, -2);
        x.blocks(0, 0, 63, 63);
        x.above(64, 0, 0);
        x.colours(-1);
        Check.yes("refused calls and questions change nothing", before.equals(seen(x)));
        int[] due = {2, 2, 2, 1};
        for (int i = 0; i < 4; i++) {
            Check.same("but status(" + i + ")", x.status(i) - status[i], due[i]);
        }
    }
}
