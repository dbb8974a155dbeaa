import java.nio.charset.StandardCharsets;
import java.util.NoSuchElementException;
import java.util.Random;

/** Random runs of 512 calls: the program against the model, every answer of every call. */
public final class RandomRunsTest {
    private static final int CALLS = 512;
    private static final long THROWN = Long.MIN_VALUE;

    private final Random random;
    private final SlabMap map = new SlabMap();
    private final Model model = new Model();
    private final String name;
    private final int grid;
    private final boolean level;
    private int calls;

    private RandomRunsTest(long seed) {
        random = new Random(seed);
        name = "run " + seed;
        // coarse grids bring ends on edges, edges on one line and ends in common
        grid = new int[] {1, 2, 5, 9, 16}[random.nextInt(5)];
        // level edges seldom cross: so the map fills up and lists grow long
        level = random.nextInt(4) == 0;
    }

    public static void main(String[] args) {
        int runs = args.length > 0 ? Integer.parseInt(args[0]) : 300;
        int first = args.length > 1 ? Integer.parseInt(args[1]) : 0;
        for (int seed = first; seed < first + runs; seed++) {
            new RandomRunsTest(seed).go();
        }
        texts(args.length > 0 ? runs * 100 : 30000);
        Check.close("RandomRunsTest");
    }

    private void go() {
        if (random.nextInt(8) > 0) {
            feedText(mapText(random, grid));
            same("text(0)", map.text(0), model.text(0));
        }
        while (calls < CALLS && Check.sound()) {
            oneCall();
        }
    }

    private void same(String call, long got, long due) {
        calls++;
        Check.same(name + ", call " + calls + ": " + call, got, due);
    }

    private void feedText(String text) {
        byte[] bytes = text.getBytes(StandardCharsets.ISO_8859_1);
        boolean fits = bytes.length <= 480;
        same("end(0)", map.end(0) ? 1 : 0, model.end(0) ? 1 : 0);
        for (int i = 0; i < bytes.length && fits; i += 20) {
            int[] n = new int[5];
            for (int k = 0; k < 20 && i + k < bytes.length; k++) {
                n[k / 4] = n[k / 4] << 8 | bytes[i + k] & 255;
            }
            same("feed", map.feed(n[0], n[1], n[2], n[3], n[4]), model.feed(n[0], n[1], n[2], n[3], n[4]));
        }
    }

    // ---- texts ----

    private static String blanks(Random random) {
        return random.nextInt(6) > 0 ? "" : " ".repeat(1 + random.nextInt(2));
    }

    private static String joined(Random random, String kind, int... numbers) {
        StringBuilder text = new StringBuilder(blanks(random)).append(kind);
        for (int k = 0; k < numbers.length; k++) {
            String zero = numbers[k] < 10 && numbers[k] >= 0 && random.nextInt(9) == 0 ? "0" : "";
            text.append(k == 0 ? "" : ",").append(blanks(random)).append(zero).append(numbers[k]);
            text.append(blanks(random));
        }
        return text.toString();
    }

    private static int place(Random random, int grid) {
        return random.nextInt(63 / grid + 1) * grid;
    }

    private static String edgeText(Random random, int grid, String kind) {
        int x = place(random, grid);
        int toX = place(random, grid);
        int from = random.nextInt(9) == 0 ? x : Math.min(x, toX);
        return joined(random, kind, from, place(random, grid), Math.max(x, toX), place(random, grid),
                random.nextInt(random.nextBoolean() ? 10 : 3));
    }

    static String mapText(Random random, int grid) {
        int clauses = 1 + random.nextInt(random.nextInt(4) == 0 ? 26 : 12);
        int e = random.nextInt(clauses);
        StringBuilder text = new StringBuilder();
        int names = random.nextInt(1023);
        for (int i = 0; i < clauses; i++) {
            text.append(i == 0 ? "" : ";");
            if (i != e && random.nextInt(5) == 0) {
                int region = random.nextInt(10);
                text.append(blanks(random)).append("n").append(blanks(random)).append(region);
                text.append(blanks(random));
                for (int k = 0; k <= random.nextInt(4); k++) {
                    text.append((char) ('a' + random.nextInt(26)));
                }
                text.append(blanks(random));
                names ^= 1 << region;
            } else {
                text.append(edgeText(random, grid, "e"));
            }
        }
        return text.toString();
    }

    static String scriptText(Random random, int grid) {
        int steps = 1 + random.nextInt(random.nextInt(5) == 0 ? 14 : 8);
        StringBuilder text = new StringBuilder();
        for (int i = 0; i < steps; i++) {
            text.append(i == 0 ? "" : ";");
            switch (random.nextInt(4)) {
                case 0:
                    text.append(joined(random, "d", random.nextInt(random.nextBoolean() ? 4 : 24)));
                    break;
                case 1:
                    text.append(joined(random, "r", random.nextInt(random.nextBoolean() ? 4 : 24),
                            random.nextInt(10)));
                    break;
                case 2:
                    text.append(joined(random, "m", random.nextInt(7) - 3, random.nextInt(7) - 3));
                    break;
                default:
                    text.append(edgeText(random, grid, "a"));
                    break;
            }
        }
        return text.toString();
    }

    private static final String SIGNS = "ennadrm;;,,,  --0123456789abz{}`/:\t\u00ff";

    static String spoilt(Random random, String text) {
        StringBuilder spoilt = new StringBuilder(text);
        for (int k = random.nextInt(3); k >= 0 && spoilt.length() > 0; k--) {
            int at = random.nextInt(spoilt.length());
            char sign = SIGNS.charAt(random.nextInt(SIGNS.length()));
            switch (random.nextInt(4)) {
                case 0:
                    spoilt.insert(at, sign);
                    break;
                case 1:
                    spoilt.deleteCharAt(at);
                    break;
                case 2:
                    spoilt.setCharAt(at, sign);
                    break;
                default:
                    spoilt.setLength(at);
                    break;
            }
        }
        return spoilt.toString();
    }

    private static void texts(int many) {
        Random random = new Random(77);
        for (int i = 0; i < many; i++) {
            String text = random.nextBoolean() ? mapText(random, 1) : scriptText(random, 1);
            if (random.nextInt(4) > 0) {
                text = spoilt(random, text);
            }
            if (text.length() <= 480) {
                SlabMap map = new SlabMap();
                Check.tape(map, text);
                Check.same("fault(0) of [" + text + "]", map.fault(0), Model.told(text, 0).fault);
                Check.same("fault(1) of [" + text + "]", map.fault(1), Model.told(text, 1).fault);
            }
        }
    }

    // ---- calls ----

    private int odd(int good) {
        switch (random.nextInt(60)) {
            case 0:
                return Integer.MIN_VALUE;
            case 1:
                return Integer.MAX_VALUE;
            case 2:
                return -1;
            case 3:
                return 64;
            case 4:
                return random.nextInt();
            default:
                return good;
        }
    }

    private int xy() {
        return odd(random.nextInt(3) == 0 ? random.nextInt(64) : place(random, grid));
    }

    private int below(int bound) {
        return odd(random.nextInt(bound + 2) - 1);
    }

    private int ago() {
        return random.nextInt(3) == 0 ? 0 : below(random.nextInt(4) == 0 ? 43 : 4);
    }

    private void oneCall() {
        int kind = random.nextInt(44);
        if (kind < 12) {
            act(kind);
        } else if (kind < 17) {
            text(kind);
        } else if (kind < 30) {
            ask(kind);
        } else {
            askMore(kind);
        }
    }

    private void act(int kind) {
        int a = xy();
        int b = xy();
        int c = xy();
        int d = xy();
        int r = below(10);
        int e = below(random.nextBoolean() ? 24 : 6);
        boolean turned = random.nextInt(8) > 0 && a > c;
        int from = turned ? c : a;
        int to = turned ? a : c;
        if (level) {
            d = b;
        }
        switch (kind) {
            case 0: case 1: case 2: case 3: case 4:
                String call = String.format("add(%d, %d, %d, %d, %d)", from, b, to, d, r);
                same(call, map.add(from, b, to, d, r), model.add(from, b, to, d, r));
                break;
            case 5:
                same("drop(" + e + ")", map.drop(e), model.drop(e));
                break;
            case 6: case 7:
                same("tell(" + e + ", " + r + ")", map.tell(e, r), model.tell(e, r));
                break;
            case 8:
                int x = odd(random.nextInt(9) - 4);
                int y = odd(random.nextInt(9) - 4);
                same("move(" + x + ", " + y + ")", map.move(x, y), model.move(x, y));
                break;
            case 9:
                if (level && random.nextInt(4) > 0) {
                    break;
                }
                int n = random.nextInt(3) > 0 ? 1 + random.nextInt(3) : below(41);
                long seed = random.nextLong();
                same("ways(" + n + ", " + seed + ")", map.ways(n, seed), model.ways(n, seed));
                break;
            case 10:
                for (int k = random.nextInt(random.nextInt(12) == 0 ? 42 : 4); k >= 0; k--) {
                    same("undo()", map.undo(), model.undo());
                }
                break;
            default:
                if (random.nextInt(3) > 0) {
                    same("image()", map.image(), model.image());
                } else {
                    same("back()", map.back(), model.back());
                }
                break;
        }
    }

    private void text(int kind) {
        switch (kind) {
            case 12:
                if (random.nextInt(6) == 0) {
                    String text = mapText(random, grid);
                    feedText(random.nextInt(4) == 0 ? spoilt(random, text) : text);
                    same("fault(0)", map.fault(0), model.fault(0));
                    same("text(0)", map.text(0), model.text(0));
                }
                break;
            case 13:
                if (random.nextInt(3) == 0) {
                    String text = scriptText(random, grid);
                    feedText(random.nextInt(4) == 0 ? spoilt(random, text) : text);
                    same("fault(1)", map.fault(1), model.fault(1));
                    same("text(1)", map.text(1), model.text(1));
                }
                break;
            case 14:
                int s = below(3);
                same("fault(" + s + ")", map.fault(s), model.fault(s));
                if (random.nextInt(4) == 0) {
                    same("text(" + s + ")", map.text(s), model.text(s));
                }
                break;
            case 15:
                int n = below(60);
                same("end(" + n + ")", map.end(n) ? 1 : 0, model.end(n) ? 1 : 0);
                break;
            default:
                int a = random.nextInt();
                int b = random.nextInt() & 0xff00ff;
                same("feed", map.feed(a, b, 0, a, -1), model.feed(a, b, 0, a, -1));
                break;
        }
    }

    private void ask(int kind) {
        int x = xy();
        int y = xy();
        int i = below(random.nextBoolean() ? 6 : 24);
        int ago = ago();
        int what = below(5);
        switch (kind) {
            case 17:
                same("rule(" + what + ")", map.rule(what), model.rule(what));
                break;
            case 18: case 19:
                int of = below(7);
                same("edge(" + i + ", " + of + ")", thrown(i, of, true), thrown(i, of, false));
                break;
            case 20:
                int slab = below(24);
                same("slab(" + slab + ", " + what + ")", map.slab(slab, what), model.slab(slab, what));
                break;
            case 21:
                int s = below(12);
                same("list(" + s + ", " + i + ")", map.list(s, i), model.list(s, i));
                break;
            case 22: case 23: case 24:
                same(String.format("at(%d, %d, %d, %d)", ago, x, y, what), map.at(ago, x, y, what),
                        model.at(ago, x, y, what));
                break;
            case 25:
                int k = below(4);
                same(String.format("above(%d, %d, %d)", x, y, k), map.above(x, y, k), model.above(x, y, k));
                break;
            case 26: case 27:
                int toX = random.nextInt(5) == 0 ? x : xy();
                int toY = xy();
                int w = random.nextBoolean() ? -1 : below(5);
                same(String.format("way(%d, %d, %d, %d, %d)", x, y, toX, toY, w), map.way(x, y, toX, toY, w),
                        model.way(x, y, toX, toY, w));
                break;
            case 28:
                int region = below(10);
                same("points(" + ago + ", " + region + ")", map.points(ago, region), model.points(ago, region));
                break;
            default:
                same("near(" + x + ", " + y + ")", map.near(x, y), model.near(x, y));
                break;
        }
    }

    private long thrown(int edge, int what, boolean ofMap) {
        try {
            return ofMap ? map.edge(edge, what) : model.edge(edge, what);
        } catch (NoSuchElementException e) {
            return THROWN;
        }
    }

    private void askMore(int kind) {
        int region = below(10);
        int ago = ago();
        int what = below(3);
        int script = below(4);
        int step = below(12);
        switch (kind) {
            case 30:
                same("beside(" + region + ")", map.beside(region), model.beside(region));
                break;
            case 31:
                same("colours(" + region + ")", map.colours(region), model.colours(region));
                break;
            case 32:
                same("status(" + step + ")", map.status(step), model.status(step));
                break;
            case 33:
                int i = below(random.nextBoolean() ? 5 : 62);
                same("log(" + i + ", " + what + ")", map.log(i, what), model.log(i, what));
                break;
            case 34:
                same("idle()", map.idle(), model.idle());
                break;
            case 35:
                same("ends(" + ago + ")", map.ends(ago), model.ends(ago));
                break;
            case 36:
                same("like(" + ago + ", " + what + ")", map.like(ago, what), model.like(ago, what));
                break;
            case 37:
                same("stairs(" + what + ")", map.stairs(what), model.stairs(what));
                break;
            case 38:
                wouldAndBlocks();
                break;
            case 39:
                int letter = below(5);
                same("name(" + region + ", " + letter + ")", map.name(region, letter), model.name(region, letter));
                break;
            case 40:
                int number = below(6);
                same(String.format("step(%d, %d, %d)", script, step, number), map.step(script, step, number),
                        model.step(script, step, number));
                break;
            case 41:
                same("run(" + script + ", " + what + ")", map.run(script, what), model.run(script, what));
                if (random.nextInt(3) == 0) {
                    same("perform(" + script + ")", map.perform(script), model.perform(script));
                }
                break;
            case 42:
                int all = below(6);
                same("all(" + all + ")", map.all(all), model.all(all));
                break;
            default:
                int count = below(5);
                same("count(" + count + ")", map.count(count), model.count(count));
                break;
        }
    }

    private void wouldAndBlocks() {
        int x = xy();
        int y = xy();
        int toX = xy();
        int toY = xy();
        int from = Math.min(x, toX);
        int to = random.nextInt(9) == 0 ? from : Math.max(x, toX);
        if (level) {
            toY = y;
        }
        int region = below(10);
        int what = random.nextInt(4) == 0 ? odd(random.nextInt(14) - 3) : random.nextInt(12) - 2;
        same(String.format("would(%d, %d, %d, %d, %d, %d)", from, y, to, toY, region, what),
                map.would(from, y, to, toY, region, what), model.would(from, y, to, toY, region, what));
        same(String.format("blocks(%d, %d, %d, %d)", from, y, to, toY), map.blocks(from, y, to, toY),
                model.blocks(from, y, to, toY));
    }
}
