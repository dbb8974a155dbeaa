import java.nio.charset.StandardCharsets;
import java.util.NoSuchElementException;

/** Counts answers that are not the due ones, and feeds texts to a tape. */
final class Check {
    private static int wrong = 0;
    private static int made = 0;

    private Check() {
    }

    static void same(String what, long got, long due) {
        made++;
        if (got != due) {
            wrong++;
            if (wrong <= 50) {
                System.out.println(what + ": answered " + got + ", due is " + due);
            }
        }
    }

    static void yes(String what, boolean got) {
        same(what, got ? 1 : 0, 1);
    }

    static void no(String what, boolean got) {
        same(what, got ? 1 : 0, 0);
    }

    static void noEdge(SlabMap map, int edge, int what) {
        boolean thrown = false;
        try {
            map.edge(edge, what);
        } catch (NoSuchElementException e) {
            thrown = true;
        }
        yes("edge(" + edge + ", " + what + ") throws", thrown);
    }

    static boolean sound() {
        return wrong == 0;
    }

    static void close(String name) {
        System.out.println(name + ": " + (made - wrong) + " answers as due, " + wrong + " not");
        if (wrong > 0) {
            System.exit(1);
        }
    }

    /** The tape has this text alone; what the last feed answered. */
    static int tape(SlabMap map, String text) {
        map.end(0);
        return more(map, text);
    }

    static int more(SlabMap map, String text) {
        byte[] bytes = text.getBytes(StandardCharsets.ISO_8859_1);
        int answer = map.count(2);
        for (int i = 0; i < bytes.length; i += 20) {
            int[] five = new int[5];
            for (int k = 0; k < 20 && i + k < bytes.length; k++) {
                five[k / 4] |= (bytes[i + k] & 255) << (24 - 8 * (k % 4));
            }
            answer = map.feed(five[0], five[1], five[2], five[3], five[4]);
        }
        return answer;
    }

    static SlabMap mapOf(String text) {
        SlabMap map = new SlabMap();
        tape(map, text);
        if (map.text(0) == SlabMap.NONE) {
            same("a map is told by " + text, map.fault(0), SlabMap.NONE);
        }
        return map;
    }

    static int script(SlabMap map, String text) {
        tape(map, text);
        return map.text(1);
    }
}
