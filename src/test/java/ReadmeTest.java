import java.io.IOException;
import java.nio.file.Files;
import java.nio.file.Path;

/** The calls that README.md tells with their answers: each is made, and its line stands there word by word. */
public final class ReadmeTest {
    private static String readme;
    private static int lines = 0;

    public static void main(String[] args) throws IOException {
        readme = Files.readString(Path.of("README.md"));
        SlabMap map = new SlabMap();
        line("tape(map, \"e0,10,40,10,1; n1 lake\");");
        tape(map, "e0,10,40,10,1; n1 lake");
        call("map.fault(0);", map.fault(0));
        call("map.text(0);", map.text(0));
        call("map.at(0, 5, 20, 1);", map.at(0, 5, 20, 1));
        call("map.name(1, -1);", map.name(1, -1));
        call("map.add(0, 30, 40, 30, 2);", map.add(0, 30, 40, 30, 2));
        call("map.add(0, 0, 40, 20, 3);", map.add(0, 0, 40, 20, 3));
        call("map.status(3);", map.status(3));
        call("map.points(0, 2);", map.points(0, 2));
        call("map.points(1, 2);", map.points(1, 2));
        call("map.beside(1);", map.beside(1));
        call("map.colours(-1);", map.colours(-1));
        line("tape(map, \"r1,5; m1,0; d9\");");
        tape(map, "r1,5; m1,0; d9");
        call("map.text(1);", map.text(1));
        call("map.run(0, 0);", map.run(0, 0));
        call("map.image();", map.image());
        call("map.perform(0);", map.perform(0));
        call("map.edge(1, 4);", map.edge(1, 4));
        call("map.undo();", map.undo());
        call("map.back();", map.back());
        Check.same("calls with answers in README.md", readme.split("\nmap\\.", -1).length - 1, lines);
        Check.close("ReadmeTest");
    }

    private static void line(String told) {
        Check.yes("README.md has " + told, readme.contains("\n" + told + "\n"));
    }

    private static void call(String told, int answer) {
        int at = readme.indexOf("\n" + told + " ");
        Check.yes("README.md has " + told, at >= 0);
        if (at >= 0) {
            String behind = readme.substring(readme.indexOf("//", at) + 3, readme.indexOf("\n", at + 1));
            Check.same(told, answer, Integer.parseInt(behind.substring(0, behind.indexOf(':'))));
        }
        lines++;
    }

    /** As README.md has it. */
    static void tape(SlabMap map, String text) {
        map.end(0);
        for (int from = 0; from < text.length(); from += 20) {
            int[] five = new int[5];
            for (int i = from; i < from + 20 && i < text.length(); i++) {
                five[(i - from) / 4] |= text.charAt(i) << 24 - 8 * (i % 4);
            }
            map.feed(five[0], five[1], five[2], five[3], five[4]);
        }
    }
}
