import java.util.Random;

/** Runs of 512 calls of every kind, right ones and wrong ones, beside the plain Model. */
public final class RandomRunsTest {
    private static final Checks CHECKS = new Checks();
    private static final int[] STRANGE = {
        -1, -2, 6, 7, 8, 12, 13, 30, 99, 100, 8191, 8192, 65535, Integer.MAX_VALUE, Integer.MIN_VALUE
    };

    private final Random random;
    private final SpaceWords x = new SpaceWords();
    private final Model m = new Model();
    private final int tightness;
    private int calls;

    private RandomRunsTest(long seed) {
        random = new Random(seed);
        tightness = random.nextInt(4);
    }

    public static void main(String[] args) {
        for (int seed = 0; seed < 80; seed++) {
            RandomRunsTest run = new RandomRunsTest(seed);
            // A step makes one call or two.
            for (int step = 0; step < 511 && run.calls <= 510; step++) {
                run.one(seed, step);
            }
            CHECKS.holds("at most 512 calls", run.calls <= 512);
        }
        CHECKS.done("RandomRunsTest");
    }

    private int upTo(int greatest) {
        return random.nextInt(60) == 0 ? STRANGE[random.nextInt(STRANGE.length)] : random.nextInt(greatest + 1);
    }

    private int set() {
        if (random.nextInt(60) == 0) {
            return STRANGE[random.nextInt(STRANGE.length)];
        }
        if (random.nextInt(4) == 0) {
            return 8191;
        }
        int found = 0;
        for (int r = 0; r < 13; r++) {
            if (random.nextInt(10) < 4 + tightness * 2) {
                found |= 1 << r;
            }
        }
        return found;
    }

    private void due(int seed, int step, String text, int got, int want) {
        calls++;
        CHECKS.due("run " + seed + " step " + step + " " + text, got, want);
    }

    private void one(int seed, int step) {
        int kind = random.nextInt(27);
        if (kind < 12) {
            change(seed, step, kind);
        } else if (kind < 20) {
            look(seed, step, kind);
        } else {
            find(seed, step, kind);
        }
    }

    private void change(int seed, int step, int kind) {
        int a = upTo(5);
        int b = upTo(5);
        int p = upTo(60);
        int q = upTo(60);
        int one = set();
        int other = set();
        int word = upTo(7);
        int way = upTo(1);
        switch (kind) {
            case 0 -> due(seed, step, "tell", x.tell(a, b, one, other), m.tell(a, b, one, other));
            case 1, 2 -> due(seed, step, "word", x.word(word, way, one), m.word(word, way, one));
            case 3 -> due(seed, step, "say", x.say(word, a, b), m.say(word, a, b));
            case 4, 5, 6 -> {
                int s = upTo(29);
                boolean on = random.nextInt(3) > 0;
                due(seed, step, "silent", x.silent(s, on), m.silent(s, on));
            }
            case 7 -> due(seed, step, "rub", x.rub(a), m.rub(a));
            default -> {
                int z = p + upTo(40);
                int y = q + upTo(40);
                due(seed, step, "box", x.box(a, p, z, q, y), m.box(a, p, z, q, y));
            }
        }
    }

    private void look(int seed, int step, int kind) {
        int a = upTo(5);
        int b = upTo(5);
        int r = upTo(12);
        int s = upTo(12);
        int one = set();
        int other = set();
        int word = upTo(7);
        int way = upTo(1);
        int what = upTo(4);
        switch (kind) {
            case 12 -> due(seed, step, "turned", x.turned(one), m.turned(one));
            case 13 -> due(seed, step, "composed", x.composed(one, other), m.composed(one, other));
            case 14 -> {
                due(seed, step, "near", x.near(r, s), m.near(r, s));
                due(seed, step, "steps", x.steps(r, s), m.steps(r, s));
            }
            case 15 -> due(seed, step, "statement", x.statement(r, what), m.statement(r, what));
            case 16 -> due(seed, step, "told", x.told(way, a, b), m.told(way, a, b));
            case 17 -> due(seed, step, "read", x.read(way, a, b), m.read(way, a, b));
            case 18 -> {
                due(seed, step, "holds", x.holds(word, a, b), m.holds(word, a, b));
                due(seed, step, "fits", x.fits(), m.fits());
            }
            default -> {
                int counted = upTo(18);
                due(seed, step, "count", x.count(counted), m.count(counted));
            }
        }
    }

    private void find(int seed, int step, int kind) {
        int a = upTo(5);
        int b = upTo(5);
        int word = upTo(7);
        int way = upTo(1);
        int what = upTo(1);
        switch (kind) {
            case 20 -> due(seed, step, "closed", x.closed(way, a, b), m.closed(way, a, b));
            case 21 -> due(seed, step, "canBe", x.canBe(way), m.canBe(way));
            case 22 -> due(seed, step, "can", x.can(way, a, b), m.can(way, a, b));
            case 23 -> due(seed, step, "drawing", x.drawing(way, a, what), m.drawing(way, a, what));
            case 24 -> {
                due(seed, step, "drawn", x.drawn(way, a, b), m.drawn(way, a, b));
                due(seed, step, "moved", x.moved(way, a, b), m.moved(way, a, b));
            }
            case 25 -> due(seed, step, "core", x.core(way), m.core(way));
            default -> due(seed, step, "ask", x.ask(word, a, b), m.ask(word, a, b));
        }
    }
}
