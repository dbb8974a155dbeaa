import java.io.IOException;
import java.nio.charset.StandardCharsets;
import java.nio.file.Files;
import java.nio.file.Path;
import java.util.ArrayList;
import java.util.List;
import java.util.NoSuchElementException;

/** Counts answers that are not the due ones, by the sentences that ask for them, and feeds texts to a tape. */
final class Check {
    private static int wrong = 0;
    private static int made = 0;
    private static String sentence = "";
    private static int madeBefore = 0;
    private static final List<String> SENTENCES = new ArrayList<>();

    private Check() {
    }

    static void same(String what, long got, long due) {
        made++;
        if (got != due) {
            wrong++;
            if (wrong <= 50) {
                System.out.println(what + ": answered " + got + ", due is " + due);
                System.out.print(sentence.isEmpty() ? "" : "    as the document says: " + sentence + "\n");
            }
        }
    }

    /** From here on the answers are those that these words of the document ask for. */
    static void of(String words) {
        endSentence();
        sentence = words;
        madeBefore = made;
        SENTENCES.add(words);
    }

    private static void endSentence() {
        if (!sentence.isEmpty() && made == madeBefore) {
            wrong++;
            System.out.println("no answer is asked for: " + sentence);
        }
    }

    /** A hint, not a fault: the document may have been told anew since the tests were written. */
    private static void tellUnquoted() {
        Path document = Path.of("../shared/DOC.md");
        try {
            String text = Files.exists(document) ? Files.readString(document).replaceAll("\\s+", " ") : "";
            for (String words : SENTENCES) {
                if (!text.isEmpty() && !text.contains(words)) {
                    System.out.println("the document no longer says: " + words);
                }
            }
        } catch (IOException e) {
            System.out.println("the document can't be read");
        }
    }

    static void yes(String what, boolean got) {
        same(what, got ? 1 : 0, 1);
    }

    static void no(String what, boolean got) {
        same(what, got ? 1 : 0, 0);
    }

    static void noEdge(SlabMap map, int edge, int what) {
        boolean thrown = false;
        try {
            map.edge(edge, what);
        } catch (NoSuchElementException e) {
            thrown = true;
        }
        yes("edge(" + edge + ", " + what + ") throws", thrown);
    }

    /** All that acts, images and texts change, as the calls tell it; of the status nothing. */
    static String seen(SlabMap map) {
        StringBuilder seen = new StringBuilder();
        for (int what = 0; what < 5; what++) {
            seen.append(map.count(what)).append(' ').append(map.rule(what)).append(' ');
        }
        for (int edge = 0; edge < 24; edge++) {
            seen.append('\n').append(edgeOf(map, edge));
        }
        for (int slab = 0; slab < map.rule(1); slab++) {
            seen.append("\nlist");
            for (int k = 0; k < map.slab(slab, 2); k++) {
                seen.append(' ').append(map.list(slab, k));
            }
        }
        for (int i = 0; i < map.count(3); i++) {
            seen.append("\nlog ").append(map.log(i, 0)).append(' ').append(map.log(i, 1)).append(' ')
                    .append(map.log(i, 2));
        }
        seen.append('\n').append(map.points(1, 0)).append(' ').append(map.points(map.count(4), 0));
        return seen.append(' ').append(map.fault(0)).append(' ').append(map.fault(1)).toString();
    }

    /** X, Y, X, Y, REGION; none: nothing. */
    static String edgeOf(SlabMap map, int edge) {
        StringBuilder told = new StringBuilder();
        try {
            for (int what = 0; what < 5; what++) {
                told.append(what == 0 ? "" : ",").append(map.edge(edge, what));
            }
        } catch (NoSuchElementException e) {
            told.setLength(0);
        }
        return told.toString();
    }

    static boolean sound() {
        return wrong == 0;
    }

    static void close(String name) {
        endSentence();
        tellUnquoted();
        String of = SENTENCES.isEmpty() ? "" : ", for " + SENTENCES.size() + " sentences";
        System.out.println(name + ": " + (made - wrong) + " answers as due, " + wrong + " not" + of);
        if (wrong > 0) {
            System.exit(1);
        }
    }

    /** The tape has this text alone; what the last feed answered. */
    static int tape(SlabMap map, String text) {
        map.end(0);
        return more(map, text);
    }

    static int more(SlabMap map, String text) {
        byte[] bytes = text.getBytes(StandardCharsets.ISO_8859_1);
        int answer = map.count(2);
        for (int i = 0; i < bytes.length; i += 20) {
            int[] five = new int[5];
            for (int k = 0; k < 20 && i + k < bytes.length; k++) {
                five[k / 4] |= (bytes[i + k] & 255) << (24 - 8 * (k % 4));
            }
            answer = map.feed(five[0], five[1], five[2], five[3], five[4]);
        }
        return answer;
    }

    static SlabMap mapOf(String text) {
        SlabMap map = new SlabMap();
        tape(map, text);
        if (map.text(0) == SlabMap.NONE) {
            same("a map is told by " + text, map.fault(0), SlabMap.NONE);
        }
        return map;
    }

    static int script(SlabMap map, String text) {
        tape(map, text);
        return map.text(1);
    }
}
