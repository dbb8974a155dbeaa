import java.util.Arrays;
import java.util.NoSuchElementException;

/**
 * A map of regions told by edges, cut into slabs. What each call promises stands in DOC.md.
 *
 * <p>Every row is made in a constructor and used again, as all that a run makes stays in one room.
 */
public final class SlabMap {
    public static final int NONE = -1;
    public static final int HIDDEN = -1000000;

    private static final int SIDE = 64;
    private static final int REGIONS = 10;
    private static final int MOST_BYTES = 480;
    private static final int MOST_EDGES = 24;
    private static final int MOST_SLABS = 2 * MOST_EDGES - 1;
    private static final int MOST_SCRIPTS = 4;
    private static final int MOST_STEPS = 12;
    private static final int MOST_LETTERS = 4;
    private static final int MOST_UNDONE = 40;
    private static final int MOST_LOGGED = 60;
    private static final int MOST_WAYS = 40;

    private static final int ADDED = 0;
    private static final int GONE = 1;
    private static final int TOLD = 2;
    private static final int MOVED = 3;
    private static final int[] NUMBERS_OF_SORT = {5, 1, 2, 2};

    private static final int MISSING = 0;
    private static final int OUT_OF_BOUNDS = 1;
    private static final int SO_ALREADY = 2;
    private static final int IN_THE_WAY = 3;
    private static final int REASONS = 4;

    private static final int NO_SUCH_SORT = -2;
    private static final int WOULD_BE_SLABS = -1;
    private static final int WOULD_BE_ENDS = -2;

    private final Tape tape = new Tape();
    private final Reader reader = new Reader(tape);
    private final int[] names = new int[REGIONS * Reader.NAME_ROOM];
    private final Steps[] scripts = new Steps[MOST_SCRIPTS];
    private int scriptCount;
    private boolean hasMap;
    private final Edges now = new Edges();
    private final Slabs nowSlabs = new Slabs(now);
    private final Edges other = new Edges();
    private final Slabs otherSlabs = new Slabs(other);
    private final History history = new History();
    private final Log log = new Log();
    private boolean hasImage;
    private final Edges image = new Edges();
    private final Log imageLog = new Log();
    private final int[] status = new int[REASONS];
    private final Act act = new Act();
    private final Ends ends = new Ends();
    private final Colours colours = new Colours();

    public SlabMap() {
    }

    // ---- the tape, the texts ----

    public int feed(int a, int b, int c, int d, int e) {
        int more = Tape.bytesIn(a) + Tape.bytesIn(b) + Tape.bytesIn(c) + Tape.bytesIn(d) + Tape.bytesIn(e);
        if (tape.length + more > MOST_BYTES) {
            return NONE;
        }
        tape.put(a);
        tape.put(b);
        tape.put(c);
        tape.put(d);
        tape.put(e);
        return tape.length;
    }

    public boolean end(int n) {
        if (n < 0 || n > tape.length) {
            return false;
        }
        tape.length = n;
        return true;
    }

    public int fault(int sort) {
        if (sort == 0) {
            return reader.readMap();
        }
        return sort == 1 ? reader.readScript() : NO_SUCH_SORT;
    }

    public int text(int sort) {
        if (sort == 0) {
            return takeMap();
        }
        return sort == 1 ? takeScript() : NONE;
    }

    private int takeMap() {
        if (reader.readMap() != NONE) {
            return NONE;
        }
        tape.length = 0;
        hasMap = true;
        hasImage = false;
        history.clear();
        log.clear();
        System.arraycopy(reader.names, 0, names, 0, names.length);
        now.clear();
        nowSlabs.stale = true;
        for (int i = 0; i < reader.edgeCount; i++) {
            act.takeNumbers(ADDED, reader.edges, i * NUMBERS_OF_SORT[ADDED]);
            if (now.refusal(act) == NONE) {
                now.apply(act);
            }
        }
        return now.count;
    }

    private int takeScript() {
        if (scriptCount >= MOST_SCRIPTS || reader.readScript() != NONE) {
            return NONE;
        }
        tape.length = 0;
        Steps steps = new Steps();
        steps.copy(reader.steps);
        scripts[scriptCount] = steps;
        scriptCount++;
        return scriptCount - 1;
    }

    // ---- the map as it is ----

    public int rule(int what) {
        if (!hasMap) {
            return NONE;
        }
        switch (what) {
            case 0:
                return now.count;
            case 1:
                return now.slabCount();
            case 2:
                return Integer.bitCount(now.regionsTold());
            case 3:
                return namesTold();
            default:
                return NONE;
        }
    }

    private int namesTold() {
        int told = 0;
        for (int region = 0; region < REGIONS; region++) {
            if (names[region * Reader.NAME_ROOM] > 0) {
                told++;
            }
        }
        return told;
    }

    public int edge(int edge, int what) throws NoSuchElementException {
        if (!now.has(edge) || what < 0 || what > 6) {
            throw new NoSuchElementException();
        }
        switch (what) {
            case 0:
                return now.x(edge);
            case 1:
                return now.y(edge);
            case 2:
                return now.toX(edge);
            case 3:
                return now.toY(edge);
            case 4:
                return now.region(edge);
            case 5:
                return slabs().endIndex(now.toX(edge)) - slabs().endIndex(now.x(edge));
            default:
                return slabs().endIndex(now.x(edge));
        }
    }

    public int slab(int slab, int what) {
        Slabs slabs = slabs();
        if (slab < 0 || slab >= slabs.count) {
            return NONE;
        }
        switch (what) {
            case 0:
                return slabs.from(slab);
            case 1:
                return slabs.to(slab);
            case 2:
                return slabs.length(slab);
            default:
                return NONE;
        }
    }

    public int list(int slab, int k) {
        return slabs().member(slab, k);
    }

    public int at(int ago, int x, int y, int what) {
        Slabs slabs = slabsAgo(ago);
        if (slabs == null || !isPoint(x, y)) {
            return NONE;
        }
        int slab = slabs.slabOf(x);
        int below = slabs.notHigher(slab, x, y);
        switch (what) {
            case 0:
                return slabs.member(slab, below - 1);
            case 1:
                return slabs.regionBelow(slab, below);
            case 2:
                return slab;
            case 3:
                return below;
            default:
                return NONE;
        }
    }

    public int above(int x, int y, int i) {
        Slabs slabs = slabs();
        if (!isPoint(x, y) || i < 0 || i >= MOST_EDGES) {
            return NONE;
        }
        int slab = slabs.slabOf(x);
        return slabs.member(slab, slabs.notHigher(slab, x, y) + i);
    }

    public int way(int x, int y, int toX, int toY, int i) {
        // without a map there are no points, though no edge would be met just as well
        if (!hasMap || !isPoint(x, y) || !isPoint(toX, toY)) {
            return NONE;
        }
        int met = 0;
        for (int edge = 0; edge < MOST_EDGES; edge++) {
            if (now.has(edge) && now.meets(edge, x, y, toX, toY)) {
                if (met == i) {
                    return edge;
                }
                met++;
            }
        }
        return i == NONE ? met : NONE;
    }

    public int points(int ago, int region) {
        Slabs slabs = slabsAgo(ago);
        if (slabs == null || !isRegion(region)) {
            return NONE;
        }
        return slabs.countPoints()[region];
    }

    public int beside(int region) {
        if (!hasMap || !isRegion(region)) {
            return NONE;
        }
        return slabs().neighbours()[region];
    }

    public int colours(int region) {
        if (!hasMap || region != NONE && !isRegion(region)) {
            return NONE;
        }
        colours.paint(slabs().neighbours());
        return region == NONE ? colours.many : colours.of(region);
    }

    // ---- acts ----

    public int add(int x, int y, int toX, int toY, int region) {
        act.setAdded(x, y, toX, toY, region);
        return tryAct();
    }

    public int drop(int edge) {
        act.setGone(edge);
        return tryAct();
    }

    public int tell(int edge, int region) {
        act.setTold(edge, region);
        return tryAct();
    }

    public int move(int x, int y) {
        act.setMoved(x, y);
        return tryAct();
    }

    private int tryAct() {
        int reason = hasMap ? now.refusal(act) : MISSING;
        if (reason >= 0 && reason < REASONS) {
            status[reason]++;
            return NONE;
        }
        return doAct();
    }

    private int doAct() {
        history.keep(now);
        int answer = now.apply(act);
        nowSlabs.stale = true;
        log.note(act.sort, act.numberToLog(answer), now.slabCount());
        return answer;
    }

    public int ways(int n, long seed) {
        if (!hasMap || n < 1 || n > MOST_WAYS) {
            return NONE;
        }
        Draws draws = new Draws(seed);
        for (int i = 0; i < n; i++) {
            drawAct(draws);
            if (now.refusal(act) == NONE) {
                doAct();
            }
        }
        return now.slabCount();
    }

    private void drawAct(Draws draws) {
        int sort = draws.below(8);
        if (sort <= 3) {
            drawAddition(draws);
        } else if (sort == 4) {
            act.setGone(draws.below(MOST_EDGES));
        } else if (sort <= 6) {
            int edge = draws.below(MOST_EDGES);
            act.setTold(edge, draws.below(REGIONS));
        } else {
            int x = draws.below(9) - 4;
            act.setMoved(x, draws.below(9) - 4);
        }
    }

    private void drawAddition(Draws draws) {
        int x = draws.below(SIDE);
        int y = draws.below(SIDE);
        int toX = draws.below(SIDE);
        int toY = draws.below(SIDE);
        int region = draws.below(REGIONS);
        if (x > toX) {
            act.setAdded(toX, toY, x, y, region);
        } else {
            act.setAdded(x, y, toX, toY, region);
        }
    }

    public int status(int what) {
        return what < 0 || what >= REASONS ? NONE : status[what];
    }

    public int undo() {
        if (history.count == 0) {
            return NONE;
        }
        history.takeBack(now);
        log.forgetLatest();
        nowSlabs.stale = true;
        return history.count;
    }

    public int log(int i, int what) {
        return log.told(i, what);
    }

    // ---- what can be told of the whole map ----

    public int idle() {
        return hasMap ? slabs().idleEdges() : NONE;
    }

    public int ends(int ago) {
        Slabs then = slabsAgo(ago == NONE ? 0 : ago);
        if (then == null) {
            return NONE;
        }
        return ends.shared(slabs(), then);
    }

    public int like(int ago, int what) {
        Slabs then = slabsAgo(ago);
        if (then == null) {
            return NONE;
        }
        switch (what) {
            case 0:
                return slabs().pointsLike(then);
            case 1:
                return slabs().listsLike(then);
            default:
                return NONE;
        }
    }

    public int stairs(int what) {
        switch (what) {
            case 0:
                return slabs().longest();
            case 1:
                return slabs().widest();
            default:
                return NONE;
        }
    }

    public int would(int x, int y, int toX, int toY, int region, int what) {
        act.setAdded(x, y, toX, toY, region);
        if (!hasMap || now.refusal(act) != NONE) {
            return NONE;
        }
        other.copy(now);
        other.apply(act);
        otherSlabs.stale = true;
        otherSlabs.cut();
        if (what == WOULD_BE_SLABS) {
            return otherSlabs.count;
        }
        if (what == WOULD_BE_ENDS) {
            return ends.shared(otherSlabs, otherSlabs);
        }
        return isRegion(what) ? otherSlabs.countPoints()[what] : NONE;
    }

    public int blocks(int x, int y, int toX, int toY) {
        if (!hasMap || !isPoint(x, y) || !isPoint(toX, toY) || x >= toX) {
            return NONE;
        }
        return now.firstCrossed(x, y, toX, toY);
    }

    public int near(int x, int y) {
        if (!isPoint(x, y)) {
            return NONE;
        }
        Slabs slabs = slabs();
        int slab = slabs.slabOf(x);
        int edge = slabs.member(slab, slabs.notHigher(slab, x, y) - 1);
        return edge == NONE ? NONE : now.stepsAbove(edge, x, y);
    }

    public int name(int region, int i) {
        if (!isRegion(region)) {
            return NONE;
        }
        int letters = names[region * Reader.NAME_ROOM];
        if (i == NONE) {
            return letters;
        }
        return i < 0 || i >= letters ? NONE : names[region * Reader.NAME_ROOM + 1 + i];
    }

    // ---- scripts ----

    public int step(int script, int i, int what) {
        Steps steps = scriptAt(script);
        return steps == null ? HIDDEN : steps.number(i, what);
    }

    public int run(int script, int what) {
        Steps steps = scriptAt(script);
        if (steps == null || !hasMap) {
            return HIDDEN;
        }
        int can = tryOut(steps);
        switch (what) {
            case 0:
                return can == steps.count ? NONE : can;
            case 1:
                return other.slabCount();
            default:
                return HIDDEN;
        }
    }

    public int perform(int script) {
        Steps steps = scriptAt(script);
        if (steps == null || !hasMap) {
            return NONE;
        }
        int can = tryOut(steps);
        for (int i = 0; i < can; i++) {
            act.takeStep(steps, i);
            doAct();
        }
        return can;
    }

    /** Does the steps on the other edges, up to the first that can't be: how many these are. */
    private int tryOut(Steps steps) {
        other.copy(now);
        for (int i = 0; i < steps.count; i++) {
            act.takeStep(steps, i);
            if (other.refusal(act) != NONE) {
                return i;
            }
            other.apply(act);
        }
        return steps.count;
    }

    private Steps scriptAt(int script) {
        return script < 0 || script >= scriptCount ? null : scripts[script];
    }

    // ---- sums, images, counts ----

    public int all(int what) {
        if (!hasMap) {
            return HIDDEN;
        }
        switch (what) {
            case 0:
                return slabs().members();
            case 1:
                return slabs().regionsWithPoints();
            case 2:
                return slabs().couples();
            case 3:
                return slabs().regionWithMostPoints();
            case 4:
                return now.longest();
            case 5:
                return now.endPoints();
            default:
                return HIDDEN;
        }
    }

    public int image() {
        if (!hasMap) {
            return NONE;
        }
        hasImage = true;
        image.copy(now);
        imageLog.copy(log);
        return now.slabCount();
    }

    public int back() {
        if (!hasImage) {
            return NONE;
        }
        now.copy(image);
        log.copy(imageLog);
        history.clear();
        nowSlabs.stale = true;
        return now.slabCount();
    }

    public int count(int what) {
        switch (what) {
            case 0:
                return now.count;
            case 1:
                return scriptCount;
            case 2:
                return tape.length;
            case 3:
                return log.length();
            case 4:
                return history.count;
            default:
                return HIDDEN;
        }
    }

    // ---- what many calls ask ----

    private static boolean isPoint(int x, int y) {
        return x >= 0 && x < SIDE && y >= 0 && y < SIDE;
    }

    private static boolean isRegion(int region) {
        return region >= 0 && region < REGIONS;
    }

    private Slabs slabs() {
        nowSlabs.cut();
        return nowSlabs;
    }

    /** Null: no map, or no such ago. */
    private Slabs slabsAgo(int ago) {
        if (!hasMap || ago < 0 || ago > history.count) {
            return null;
        }
        Slabs slabs = nowSlabs;
        if (ago > 0) {
            history.recall(ago, other);
            otherSlabs.stale = true;
            slabs = otherSlabs;
        }
        slabs.cut();
        return slabs;
    }

    /** The bytes that texts are read from. */
    private static final class Tape {
        final int[] bytes = new int[MOST_BYTES];
        int length;

        static int bytesIn(int number) {
            int bytes = 0;
            for (int shift = 24; shift >= 0; shift -= 8) {
                if (((number >>> shift) & 255) != 0) {
                    bytes++;
                }
            }
            return bytes;
        }

        void put(int number) {
            for (int shift = 24; shift >= 0; shift -= 8) {
                int sign = (number >>> shift) & 255;
                if (sign != 0 && length < MOST_BYTES) {
                    bytes[length] = sign;
                    length++;
                }
            }
        }
    }

    /** Steps of a script: of each its sort and five numbers, HIDDEN where it has fewer. */
    private static final class Steps {
        static final int ROOM = 6;
        final int[] numbers = new int[MOST_STEPS * ROOM];
        int count;

        void copy(Steps steps) {
            System.arraycopy(steps.numbers, 0, numbers, 0, numbers.length);
            count = steps.count;
        }

        int number(int i, int what) {
            if (i < 0 || i >= count || what < 0 || what >= ROOM) {
                return HIDDEN;
            }
            return numbers[i * ROOM + what];
        }
    }

    /** Reads the tape as a map or as a script into rows of its own, which stand if it found no fault. */
    private static final class Reader {
        static final int NAME_ROOM = MOST_LETTERS + 1;
        final int[] edges = new int[MOST_EDGES * NUMBERS_OF_SORT[ADDED]];
        int edgeCount;
        final int[] names = new int[REGIONS * NAME_ROOM];
        final Steps steps = new Steps();
        private final Tape tape;
        private int next;
        private int fault;

        Reader(Tape tape) {
            this.tape = tape;
        }

        int readMap() {
            begin();
            edgeCount = 0;
            Arrays.fill(names, 0);
            boolean more = true;
            // each clause takes a byte at least
            for (int i = 0; i <= tape.length && more; i++) {
                readClause();
                more = readsSemicolon();
            }
            if (fault == NONE && edgeCount == 0) {
                fault = tape.length;
            }
            return fault;
        }

        int readScript() {
            begin();
            steps.count = 0;
            boolean more = true;
            for (int i = 0; i < MOST_STEPS && more; i++) {
                readStep(i);
                more = readsSemicolon();
            }
            if (more) {
                // the sign read last is the ; ahead of a step too many
                fault = next - 1;
            }
            return fault;
        }

        private void begin() {
            next = 0;
            fault = NONE;
        }

        /** Only the first fault is told. */
        private void fail() {
            if (fault == NONE) {
                fault = next;
            }
        }

        private int sign() {
            return next < tape.length ? tape.bytes[next] : NONE;
        }

        private static int digitOf(int sign) {
            return sign >= '0' && sign <= '9' ? sign - '0' : NONE;
        }

        private static boolean isLetter(int sign) {
            return sign >= 'a' && sign <= 'z';
        }

        private void skipBlanks() {
            while (next < tape.length && tape.bytes[next] == ' ') {
                next++;
            }
        }

        private boolean readsSemicolon() {
            skipBlanks();
            if (fault != NONE || next >= tape.length) {
                return false;
            }
            if (sign() != ';') {
                fail();
                return false;
            }
            next++;
            return true;
        }

        private void readClause() {
            skipBlanks();
            int sign = sign();
            if (sign == 'e' && edgeCount < MOST_EDGES) {
                next++;
                readNumbers(ADDED, edges, edgeCount * NUMBERS_OF_SORT[ADDED]);
                edgeCount++;
            } else if (sign == 'n') {
                next++;
                readName();
            } else {
                fail();
            }
        }

        private void readName() {
            skipBlanks();
            int region = digitOf(sign());
            if (region == NONE || names[region * NAME_ROOM] > 0) {
                fail();
                return;
            }
            next++;
            skipBlanks();
            int letters = 0;
            while (letters < MOST_LETTERS && isLetter(sign())) {
                letters++;
                names[region * NAME_ROOM + letters] = sign();
                next++;
            }
            names[region * NAME_ROOM] = letters;
            if (letters == 0 || isLetter(sign())) {
                fail();
            }
        }

        private void readStep(int i) {
            skipBlanks();
            int sort = sortOf(sign());
            if (sort == NONE) {
                fail();
                return;
            }
            next++;
            int from = i * Steps.ROOM;
            steps.numbers[from] = sort;
            for (int k = 1; k < Steps.ROOM; k++) {
                steps.numbers[from + k] = HIDDEN;
            }
            readNumbers(sort, steps.numbers, from + 1);
            steps.count = i + 1;
        }

        private static int sortOf(int sign) {
            switch (sign) {
                case 'a':
                    return ADDED;
                case 'd':
                    return GONE;
                case 'r':
                    return TOLD;
                case 'm':
                    return MOVED;
                default:
                    return NONE;
            }
        }

        private void readNumbers(int sort, int[] into, int from) {
            for (int k = 0; k < NUMBERS_OF_SORT[sort] && fault == NONE; k++) {
                if (k > 0) {
                    readComma();
                }
                into[from + k] = sort == MOVED ? readSigned() : readNumber(greatest(sort, k));
            }
        }

        private static int greatest(int sort, int k) {
            switch (sort) {
                case ADDED:
                    return k < 4 ? SIDE - 1 : REGIONS - 1;
                case TOLD:
                    return k == 0 ? MOST_EDGES - 1 : REGIONS - 1;
                default:
                    return MOST_EDGES - 1;
            }
        }

        private void readComma() {
            skipBlanks();
            if (sign() == ',') {
                next++;
            } else {
                fail();
            }
        }

        private int readSigned() {
            skipBlanks();
            if (sign() != '-') {
                return readNumber(SIDE - 1);
            }
            next++;
            if (digitOf(sign()) == NONE) {
                fail();
            }
            return -readNumber(SIDE - 1);
        }

        private int readNumber(int most) {
            skipBlanks();
            if (fault != NONE || digitOf(sign()) == NONE) {
                fail();
                return 0;
            }
            int number = digitOf(sign());
            next++;
            if (digitOf(sign()) != NONE) {
                number = number * 10 + digitOf(sign());
                next++;
            }
            if (digitOf(sign()) != NONE) {
                // a third digit is told ahead of bounds that the two ahead of it break
                fail();
            } else if (number > most) {
                fault = next - 1;
            }
            return number;
        }
    }

    /** What an act would do: which of its numbers count tells its sort. */
    private static final class Act {
        int sort;
        int edge;
        int x;
        int y;
        int toX;
        int toY;
        int region;

        void setAdded(int fromX, int fromY, int endX, int endY, int ofRegion) {
            sort = ADDED;
            x = fromX;
            y = fromY;
            toX = endX;
            toY = endY;
            region = ofRegion;
        }

        void setGone(int which) {
            sort = GONE;
            edge = which;
        }

        void setTold(int which, int toRegion) {
            sort = TOLD;
            edge = which;
            region = toRegion;
        }

        void setMoved(int byX, int byY) {
            sort = MOVED;
            x = byX;
            y = byY;
        }

        void takeStep(Steps steps, int i) {
            if (i >= 0 && i < MOST_STEPS) {
                takeNumbers(steps.numbers[i * Steps.ROOM], steps.numbers, i * Steps.ROOM + 1);
            }
        }

        void takeNumbers(int ofSort, int[] numbers, int from) {
            if (from < 0 || from + NUMBERS_OF_SORT[ADDED] > numbers.length) {
                return;
            }
            switch (ofSort) {
                case ADDED:
                    setAdded(numbers[from], numbers[from + 1], numbers[from + 2], numbers[from + 3],
                            numbers[from + 4]);
                    break;
                case GONE:
                    setGone(numbers[from]);
                    break;
                case TOLD:
                    setTold(numbers[from], numbers[from + 1]);
                    break;
                default:
                    setMoved(numbers[from], numbers[from + 1]);
                    break;
            }
        }

        int numberToLog(int answer) {
            if (sort == ADDED) {
                return answer;
            }
            return sort == MOVED ? x : edge;
        }
    }

    /** Draws from a seed. */
    private static final class Draws {
        private long x;

        Draws(long seed) {
            x = seed;
        }

        int below(int bound) {
            x = x * 6364136223846793005L + 1442695040888963407L;
            return bound <= 0 ? 0 : (int) ((x >>> 33) % bound);
        }
    }

    /** The edges by number; without REGION a number has no edge. */
    private static final class Edges {
        static final int SIZE = 5 * MOST_EDGES;
        private static final int Y = MOST_EDGES;
        private static final int TO_X = 2 * MOST_EDGES;
        private static final int TO_Y = 3 * MOST_EDGES;
        private static final int REGION = 4 * MOST_EDGES;
        // one row, so that keeping and taking back is one copy
        final int[] row = new int[SIZE];
        int count;

        Edges() {
            Arrays.fill(row, NONE);
        }

        void clear() {
            Arrays.fill(row, NONE);
            count = 0;
        }

        void copy(Edges edges) {
            System.arraycopy(edges.row, 0, row, 0, SIZE);
            count = edges.count;
        }

        void takeRow(int[] rows, int from) {
            System.arraycopy(rows, from, row, 0, SIZE);
            count = 0;
            for (int edge = 0; edge < MOST_EDGES; edge++) {
                if (has(edge)) {
                    count++;
                }
            }
        }

        boolean has(int edge) {
            return edge >= 0 && edge < MOST_EDGES && row[REGION + edge] != NONE;
        }

        int x(int edge) {
            return row[edge];
        }

        int y(int edge) {
            return row[Y + edge];
        }

        int toX(int edge) {
            return row[TO_X + edge];
        }

        int toY(int edge) {
            return row[TO_Y + edge];
        }

        int region(int edge) {
            return row[REGION + edge];
        }

        int width(int edge) {
            return row[TO_X + edge] - row[edge];
        }

        /** How high the edge is at half of twiceX, times twice its width: so it stays whole. */
        int height(int edge, int twiceX) {
            int low = row[Y + edge];
            return 2 * low * (row[TO_X + edge] - row[edge]) + (row[TO_Y + edge] - low) * (twiceX - 2 * row[edge]);
        }

        boolean isHigher(int edge, int x, int y) {
            return height(edge, 2 * x) > 2 * y * width(edge);
        }

        boolean isOver(int edge, int under, int twiceX) {
            return height(edge, twiceX) * width(under) > height(under, twiceX) * width(edge);
        }

        /** The lowest Y of a point that is no lower than the edge. */
        int firstAbove(int edge, int x) {
            int wide = 2 * width(edge);
            return wide <= 0 ? 0 : (height(edge, 2 * x) + wide - 1) / wide;
        }

        int stepsAbove(int edge, int x, int y) {
            int wide = 2 * width(edge);
            return wide <= 0 ? 0 : (y * wide - height(edge, 2 * x)) / wide;
        }

        /** Whether a straight way and the edge have a point in common that is an end of neither. */
        boolean meets(int edge, int x, int y, int endX, int endY) {
            int start = turn(x(edge), y(edge), toX(edge), toY(edge), x, y);
            int stop = turn(x(edge), y(edge), toX(edge), toY(edge), endX, endY);
            if (start == 0 && stop == 0) {
                return Math.max(x(edge), Math.min(x, endX)) < Math.min(toX(edge), Math.max(x, endX));
            }
            return areOpposite(start, stop)
                    && areOpposite(turn(x, y, endX, endY, x(edge), y(edge)),
                            turn(x, y, endX, endY, toX(edge), toY(edge)));
        }

        private static boolean areOpposite(int a, int b) {
            return a < 0 && b > 0 || a > 0 && b < 0;
        }

        /** On which side of the straight line through a, b the point c is; 0: on it. */
        private static int turn(int ax, int ay, int bx, int by, int cx, int cy) {
            return (bx - ax) * (cy - ay) - (by - ay) * (cx - ax);
        }

        int firstCrossed(int x, int y, int endX, int endY) {
            for (int edge = 0; edge < MOST_EDGES; edge++) {
                if (has(edge) && meets(edge, x, y, endX, endY)) {
                    return edge;
                }
            }
            return NONE;
        }

        /** Why the act can't be; NONE: it can. */
        int refusal(Act act) {
            switch (act.sort) {
                case ADDED:
                    return refusalToAdd(act);
                case GONE:
                    return has(act.edge) ? NONE : MISSING;
                case TOLD:
                    return refusalToTell(act);
                default:
                    return refusalToMove(act);
            }
        }

        private int refusalToAdd(Act act) {
            if (!isPoint(act.x, act.y) || !isPoint(act.toX, act.toY) || !isRegion(act.region)) {
                return OUT_OF_BOUNDS;
            }
            if (act.x >= act.toX) {
                return SO_ALREADY;
            }
            boolean crosses = firstCrossed(act.x, act.y, act.toX, act.toY) != NONE;
            return crosses || count >= MOST_EDGES ? IN_THE_WAY : NONE;
        }

        private int refusalToTell(Act act) {
            if (!has(act.edge)) {
                return MISSING;
            }
            if (!isRegion(act.region)) {
                return OUT_OF_BOUNDS;
            }
            return region(act.edge) == act.region ? SO_ALREADY : NONE;
        }

        private int refusalToMove(Act act) {
            if (!isStep(act.x) || !isStep(act.y)) {
                return OUT_OF_BOUNDS;
            }
            if (act.x == 0 && act.y == 0) {
                return SO_ALREADY;
            }
            for (int edge = 0; edge < MOST_EDGES; edge++) {
                if (has(edge) && !(isPoint(x(edge) + act.x, y(edge) + act.y)
                        && isPoint(toX(edge) + act.x, toY(edge) + act.y))) {
                    return IN_THE_WAY;
                }
            }
            return NONE;
        }

        private static boolean isStep(int by) {
            return by > -SIDE && by < SIDE;
        }

        /** Does an act that is not refused, and answers what the call of its sort does. */
        int apply(Act act) {
            switch (act.sort) {
                case ADDED:
                    return applyAdded(act);
                case GONE:
                    return applyRegion(act.edge, NONE);
                case TOLD:
                    return applyRegion(act.edge, act.region);
                default:
                    return applyMoved(act);
            }
        }

        private int applyAdded(Act act) {
            for (int edge = 0; edge < MOST_EDGES; edge++) {
                if (!has(edge)) {
                    row[edge] = act.x;
                    row[Y + edge] = act.y;
                    row[TO_X + edge] = act.toX;
                    row[TO_Y + edge] = act.toY;
                    row[REGION + edge] = act.region;
                    count++;
                    return edge;
                }
            }
            return NONE;
        }

        private int applyRegion(int edge, int region) {
            if (!has(edge)) {
                return NONE;
            }
            int was = region(edge);
            row[REGION + edge] = region;
            if (region == NONE) {
                count--;
            }
            return was;
        }

        private int applyMoved(Act act) {
            for (int edge = 0; edge < MOST_EDGES; edge++) {
                if (has(edge)) {
                    row[edge] += act.x;
                    row[Y + edge] += act.y;
                    row[TO_X + edge] += act.x;
                    row[TO_Y + edge] += act.y;
                }
            }
            return count;
        }

        /** The X at which edges end, as bits. */
        long endBits() {
            long bits = 0;
            for (int edge = 0; edge < MOST_EDGES; edge++) {
                if (has(edge)) {
                    bits |= 1L << x(edge) | 1L << toX(edge);
                }
            }
            return bits;
        }

        int slabCount() {
            return Math.max(0, Long.bitCount(endBits()) - 1);
        }

        int regionsTold() {
            int bits = 0;
            for (int edge = 0; edge < MOST_EDGES; edge++) {
                if (has(edge)) {
                    bits |= 1 << region(edge);
                }
            }
            return bits;
        }

        int longest() {
            int best = NONE;
            for (int edge = 0; edge < MOST_EDGES; edge++) {
                if (has(edge) && (best == NONE || width(edge) > width(best))) {
                    best = edge;
                }
            }
            return best;
        }

        int endPoints() {
            int points = 0;
            for (int x = 0; x < SIDE; x++) {
                long bits = 0;
                for (int edge = 0; edge < MOST_EDGES; edge++) {
                    if (has(edge) && x(edge) == x) {
                        bits |= 1L << y(edge);
                    }
                    if (has(edge) && toX(edge) == x) {
                        bits |= 1L << toY(edge);
                    }
                }
                points += Long.bitCount(bits);
            }
            return points;
        }
    }

    /** The slabs of some edges, as these were when it was cut; stale: they have changed since. */
    private static final class Slabs {
        boolean stale = true;
        int count;
        private final Edges edges;
        private final int[] cuts = new int[MOST_SLABS + 1];
        private final int[] lengths = new int[MOST_SLABS];
        private final int[] lists = new int[MOST_SLABS * MOST_EDGES];
        // a column of points in parts from below upwards: where each begins, its region
        private final int[] partFrom = new int[MOST_EDGES + 1];
        private final int[] partRegion = new int[MOST_EDGES + 1];
        private int parts;
        private final int[] pointCounts = new int[REGIONS];
        private final int[] neighbourBits = new int[REGIONS];

        Slabs(Edges edges) {
            this.edges = edges;
        }

        void cut() {
            if (!stale) {
                return;
            }
            long bits = edges.endBits();
            int found = 0;
            for (int x = 0; x < SIDE; x++) {
                if ((bits >>> x & 1) != 0 && found < cuts.length) {
                    cuts[found] = x;
                    found++;
                }
            }
            count = Math.max(0, found - 1);
            for (int slab = 0; slab < count; slab++) {
                fillList(slab);
            }
            stale = false;
        }

        private void fillList(int slab) {
            lengths[slab] = 0;
            for (int edge = 0; edge < MOST_EDGES; edge++) {
                if (edges.has(edge) && edges.x(edge) <= from(slab) && edges.toX(edge) >= to(slab)) {
                    insert(slab, edge);
                }
            }
        }

        private void insert(int slab, int edge) {
            int first = slab * MOST_EDGES;
            int place = first + lengths[slab];
            // in the middle of a slab no two edges of its list are equally high
            int middle = from(slab) + to(slab);
            while (place > first && edges.isOver(lists[place - 1], edge, middle)) {
                lists[place] = lists[place - 1];
                place--;
            }
            lists[place] = edge;
            lengths[slab]++;
        }

        int from(int slab) {
            return cuts[slab];
        }

        int to(int slab) {
            return cuts[slab + 1];
        }

        int length(int slab) {
            return slab < 0 || slab >= count ? 0 : lengths[slab];
        }

        int member(int slab, int k) {
            return k < 0 || k >= length(slab) ? NONE : lists[slab * MOST_EDGES + k];
        }

        /** Which of the X at which edges end this is, from the left; a slab that begins there has its number. */
        int endIndex(int x) {
            for (int i = 0; i <= count; i++) {
                if (cuts[i] == x) {
                    return i;
                }
            }
            return NONE;
        }

        int slabOf(int x) {
            if (count == 0 || x >= cuts[count]) {
                return NONE;
            }
            int found = NONE;
            for (int slab = 0; slab < count && cuts[slab] <= x; slab++) {
                found = slab;
            }
            return found;
        }

        int notHigher(int slab, int x, int y) {
            int below = 0;
            while (below < length(slab) && !edges.isHigher(member(slab, below), x, y)) {
                below++;
            }
            return below;
        }

        /** The region below the k-th edge of a list. */
        int regionBelow(int slab, int k) {
            int edge = member(slab, k - 1);
            return edge == NONE ? 0 : edges.region(edge);
        }

        int members() {
            int sum = 0;
            for (int slab = 0; slab < count; slab++) {
                sum += lengths[slab];
            }
            return sum;
        }

        int longest() {
            int best = NONE;
            for (int slab = 0; slab < count; slab++) {
                if (best == NONE || length(slab) > length(best)) {
                    best = slab;
                }
            }
            return best;
        }

        int widest() {
            int best = NONE;
            for (int slab = 0; slab < count; slab++) {
                if (best == NONE || to(slab) - from(slab) > to(best) - from(best)) {
                    best = slab;
                }
            }
            return best;
        }

        /** Of each region those that are beside it, as bits. */
        int[] neighbours() {
            Arrays.fill(neighbourBits, 0);
            for (int slab = 0; slab < count; slab++) {
                for (int k = 0; k < lengths[slab]; k++) {
                    int below = regionBelow(slab, k);
                    int over = regionBelow(slab, k + 1);
                    if (below != over) {
                        neighbourBits[below] |= 1 << over;
                        neighbourBits[over] |= 1 << below;
                    }
                }
            }
            return neighbourBits;
        }

        int couples() {
            int sum = 0;
            for (int bits : neighbours()) {
                sum += Integer.bitCount(bits);
            }
            return sum / 2;
        }

        int idleEdges() {
            int parting = 0;
            int there = 0;
            for (int slab = 0; slab < count; slab++) {
                for (int k = 0; k < lengths[slab]; k++) {
                    int bit = 1 << member(slab, k);
                    there |= bit;
                    if (regionBelow(slab, k) != regionBelow(slab, k + 1)) {
                        parting |= bit;
                    }
                }
            }
            return there & ~parting;
        }

        private void cutColumn(int x) {
            int slab = slabOf(x);
            partFrom[0] = 0;
            partRegion[0] = 0;
            parts = 1;
            for (int k = 0; k < length(slab); k++) {
                int edge = member(slab, k);
                partFrom[parts] = edges.firstAbove(edge, x);
                partRegion[parts] = edges.region(edge);
                parts++;
            }
        }

        private int partTo(int part) {
            return part + 1 < parts ? partFrom[part + 1] : SIDE;
        }

        /** Of each region how many points are in it. */
        int[] countPoints() {
            Arrays.fill(pointCounts, 0);
            for (int x = 0; x < SIDE; x++) {
                cutColumn(x);
                for (int part = 0; part < parts; part++) {
                    pointCounts[partRegion[part]] += partTo(part) - partFrom[part];
                }
            }
            return pointCounts;
        }

        int regionsWithPoints() {
            int[] counts = countPoints();
            int bits = 0;
            for (int region = 0; region < REGIONS; region++) {
                if (counts[region] > 0) {
                    bits |= 1 << region;
                }
            }
            return bits;
        }

        int regionWithMostPoints() {
            int[] counts = countPoints();
            int best = NONE;
            int most = 0;
            for (int region = 1; region < REGIONS; region++) {
                if (counts[region] > most) {
                    best = region;
                    most = counts[region];
                }
            }
            return best;
        }

        int pointsLike(Slabs then) {
            int like = 0;
            for (int x = 0; x < SIDE; x++) {
                cutColumn(x);
                then.cutColumn(x);
                for (int part = 0; part < parts; part++) {
                    like += then.pointsInColumn(partFrom[part], partTo(part), partRegion[part]);
                }
            }
            return like;
        }

        private int pointsInColumn(int fromY, int toY, int region) {
            int points = 0;
            for (int part = 0; part < parts; part++) {
                if (partRegion[part] == region) {
                    points += Math.max(0, Math.min(toY, partTo(part)) - Math.max(fromY, partFrom[part]));
                }
            }
            return points;
        }

        int listsLike(Slabs then) {
            int like = 0;
            for (int slab = 0; slab < count; slab++) {
                if (then.hasListOf(this, slab)) {
                    like++;
                }
            }
            return like;
        }

        private boolean hasListOf(Slabs slabs, int which) {
            for (int slab = 0; slab < count; slab++) {
                if (isListOf(slab, slabs, which)) {
                    return true;
                }
            }
            return false;
        }

        private boolean isListOf(int slab, Slabs slabs, int which) {
            if (length(slab) != slabs.length(which)) {
                return false;
            }
            for (int k = 0; k < length(slab); k++) {
                if (member(slab, k) != slabs.member(which, k)) {
                    return false;
                }
            }
            return true;
        }
    }

    /**
     * The ends of lists, each told once: an end is its lowest edge and the end above that, so lists that
     * go on alike upwards share what they have in common. The first one has no edge.
     */
    private static final class Ends {
        private static final int ROOM = 2 * MOST_SLABS * MOST_EDGES + 1;
        private static final int NOW = 1;
        private static final int THEN = 2;
        private final int[] edge = new int[ROOM];
        private final int[] firstLonger = new int[ROOM];
        private final int[] nextAside = new int[ROOM];
        private final int[] seen = new int[ROOM];
        private int count;

        int shared(Slabs now, Slabs then) {
            count = 0;
            longer(NONE, NONE);
            take(now, NOW);
            take(then, THEN);
            int both = 0;
            for (int i = 1; i < count; i++) {
                if (seen[i] == (NOW | THEN)) {
                    both++;
                }
            }
            return both;
        }

        private void take(Slabs slabs, int mark) {
            for (int slab = 0; slab < slabs.count; slab++) {
                int end = 0;
                for (int k = slabs.length(slab) - 1; k >= 0; k--) {
                    end = longerBy(end, slabs.member(slab, k));
                    seen[end] |= mark;
                }
            }
        }

        private int longerBy(int end, int lower) {
            int found = firstLonger[end];
            for (int i = 0; i < MOST_EDGES && found != NONE; i++) {
                if (edge[found] == lower) {
                    return found;
                }
                found = nextAside[found];
            }
            int made = longer(lower, firstLonger[end]);
            firstLonger[end] = made;
            return made;
        }

        private int longer(int lower, int aside) {
            if (count >= ROOM) {
                return 0;
            }
            edge[count] = lower;
            nextAside[count] = aside;
            firstLonger[count] = NONE;
            seen[count] = 0;
            count++;
            return count - 1;
        }
    }

    /** The fewest colours, and the first such painting. */
    private static final class Colours {
        int many;
        private final int[] colour = new int[REGIONS];

        void paint(int[] beside) {
            many = 0;
            boolean painted = false;
            while (!painted && many < REGIONS) {
                many++;
                painted = paintFrom(0, 0, many, beside, colour);
            }
        }

        int of(int region) {
            return isRegion(region) ? colour[region] : NONE;
        }

        /** The first painting never skips a colour, so one more than those used is enough to try. */
        private static boolean paintFrom(int region, int used, int most, int[] beside, int[] colour) {
            if (region >= REGIONS) {
                return true;
            }
            for (int c = 0; c <= used && c < most; c++) {
                if (isFree(region, c, beside, colour)) {
                    colour[region] = c;
                    if (paintFrom(region + 1, Math.max(used, c + 1), most, beside, colour)) {
                        return true;
                    }
                }
            }
            return false;
        }

        private static boolean isFree(int region, int c, int[] beside, int[] colour) {
            for (int lower = 0; lower < region; lower++) {
                if (colour[lower] == c && (beside[region] >>> lower & 1) != 0) {
                    return false;
                }
            }
            return true;
        }
    }

    /** The edges as they were ahead of each of the latest acts. */
    private static final class History {
        int count;
        private final int[] rows = new int[MOST_UNDONE * Edges.SIZE];
        private int next;

        void clear() {
            count = 0;
        }

        void keep(Edges edges) {
            System.arraycopy(edges.row, 0, rows, next * Edges.SIZE, Edges.SIZE);
            next = (next + 1) % MOST_UNDONE;
            count = Math.min(MOST_UNDONE, count + 1);
        }

        void recall(int ago, Edges into) {
            if (ago > 0 && ago <= count) {
                into.takeRow(rows, (next + MOST_UNDONE - ago) % MOST_UNDONE * Edges.SIZE);
            }
        }

        void takeBack(Edges into) {
            recall(1, into);
            if (count > 0) {
                next = (next + MOST_UNDONE - 1) % MOST_UNDONE;
                count--;
            }
        }
    }

    /** The latest acts; it holds more than it tells, as acts undone bring older ones to light again. */
    private static final class Log {
        private static final int WHATS = 3;
        private static final int ROOM = MOST_LOGGED + MOST_UNDONE;
        private final int[] rows = new int[ROOM * WHATS];
        private int total;

        void clear() {
            total = 0;
        }

        void copy(Log log) {
            System.arraycopy(log.rows, 0, rows, 0, rows.length);
            total = log.total;
        }

        void note(int sort, int number, int slabs) {
            int from = total % ROOM * WHATS;
            rows[from] = sort;
            rows[from + 1] = number;
            rows[from + 2] = slabs;
            total++;
        }

        void forgetLatest() {
            total = Math.max(0, total - 1);
        }

        int length() {
            return Math.min(total, MOST_LOGGED);
        }

        int told(int i, int what) {
            if (i < 0 || i >= length() || what < 0 || what >= WHATS) {
                return HIDDEN;
            }
            return rows[(total - 1 - i) % ROOM * WHATS + what];
        }
    }
}
