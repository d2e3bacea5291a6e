import java.util.ArrayList;
import java.util.List;

/**
 * Every argument of every call at its edges, all of them with all others, in states from a new
 * object to a full one, beside the plain Model. "REFUSALS: the call answers the number, the first
 * that fits in the order in which it tells them; nothing changes but how many there were."
 */
public final class SweepTest {
    private static final Checks CHECKS = new Checks();
    private static final int MIN = Integer.MIN_VALUE;
    private static final int MAX = Integer.MAX_VALUE;

    private static final int[] THING = {MIN, -1, 0, 1, 5, 6, MAX};
    private static final int[] WAY = {MIN, -1, 0, 1, 2, MAX};
    private static final int[] WORD = {MIN, -1, 0, 7, 8, MAX};
    private static final int[] SET = {MIN, -8192, -1, 0, 1, 8191, 8192, MAX};
    private static final int[] RELATION = {MIN, -1, 0, 6, 12, 13, 32, MAX};
    private static final int[] STATEMENT = {MIN, -1, 0, 1, 2, 3, 4, 28, 29, 30, 31, 32, MAX};
    private static final int[] FLAG = {0, 1};
    private static final int[] END = {MIN, -1, 0, 1, 2, MAX};
    private static final int[] WHAT = {MIN, -1, 0, 1, 2, 3, 4, 5, MAX};
    private static final int[] NUMBER = {MIN, -1, 0, 1, 98, 99, 100, MAX};
    private static final int[] SOME_THING = {-1, 0, 5, 6};
    private static final int[] COUNTED = {
        MIN, -16, -11, -1, 0, 1, 2, 3, 4, 9, 10, 11, 12, 13, 14, 15, 16, 17, 18, 27, MAX
    };

    /** Calls of one object, that none has more than 512. */
    private static final int MOST_CALLS = 512;

    private List<Call> start;
    private String state;
    private SpaceWords x;
    private Model m;
    private int used;

    public static void main(String[] args) {
        new SweepTest().sweep("fresh", States.fresh());
        new SweepTest().sweep("loose", States.loose());
        new SweepTest().sweep("quarrel along 0", States.quarrel(0));
        new SweepTest().sweep("quarrel along 1", States.quarrel(1));
        new SweepTest().sweep("full", States.full());
        CHECKS.done("SweepTest");
    }

    private void sweep(String name, List<Call> calls) {
        state = name;
        start = calls;
        every("turned", SET);
        every("composed", SET, SET);
        every("near", RELATION, RELATION);
        every("steps", RELATION, RELATION);
        every("tell", THING, THING, SET, SET);
        every("silent", STATEMENT, FLAG);
        every("statement", STATEMENT, WHAT);
        every("told", WAY, THING, THING);
        every("closed", WAY, THING, THING);
        every("canBe", WAY);
        every("can", WAY, THING, THING);
        every("drawing", WAY, THING, END);
        every("drawn", WAY, THING, THING);
        every("core", WAY);
        every("word", WORD, WAY, SET);
        every("say", WORD, THING, THING);
        every("ask", WORD, THING, THING);
        every("box", SOME_THING, NUMBER, NUMBER, NUMBER, NUMBER);
        every("rub", THING);
        every("read", WAY, THING, THING);
        every("holds", WORD, THING, THING);
        every("fits");
        every("moved", WAY, THING, THING);
        every("count", COUNTED);
    }

    /** All values of each argument with all of the others. */
    private void every(String name, int[]... values) {
        List<int[]> all = new ArrayList<>();
        all.add(new int[values.length]);
        for (int place = 0; place < values.length; place++) {
            List<int[]> more = new ArrayList<>();
            for (int[] args : all) {
                for (int value : values[place]) {
                    int[] next = args.clone();
                    next[place] = value;
                    more.add(next);
                }
            }
            all = more;
        }
        begin();
        int ending = States.looks().size() + States.lastLooks().size();
        for (int[] args : all) {
            if (used + 1 + ending > MOST_CALLS) {
                end();
                begin();
            }
            same(new Call(name, args));
        }
        end();
    }

    private void begin() {
        x = new SpaceWords();
        m = new Model();
        used = 0;
        start.forEach(this::same);
    }

    private void end() {
        States.looks().forEach(this::same);
        States.lastLooks().forEach(this::same);
        CHECKS.holds("at most 512 calls", used <= MOST_CALLS);
    }

    private void same(Call call) {
        used++;
        CHECKS.due(state + ", call " + used + ": " + call.text(), call.on(x), call.on(m));
    }
}
