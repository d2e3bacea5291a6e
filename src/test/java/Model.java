import java.util.ArrayList;
import java.util.List;

/** A second SpaceWords, slow and plain: what the document asks, over the terms in Plain. */
final class Model {
    private final List<int[]> statements = new ArrayList<>();
    private final int[][] words = new int[8][2];
    private final int[][] boxes = new int[6][];
    private final int[] refusals = new int[17];

    Model() {
        for (int[] word : words) {
            word[0] = Plain.ALL;
            word[1] = Plain.ALL;
        }
    }

    private int no(int number) {
        refusals[10 - number]++;
        return number;
    }

    private static boolean noRelations(int r, int s) {
        return r < 0 || r > 12 || s < 0 || s > 12;
    }

    private static boolean noThings(int a, int b) {
        return a < 0 || a > 5 || b < 0 || b > 5 || a == b;
    }

    private static boolean noSet(int set) {
        return set < 0 || set > 8191;
    }

    private static boolean noWay(int way) {
        return way != 0 && way != 1;
    }

    private static boolean noWord(int word) {
        return word < 0 || word > 7;
    }

    int turned(int set) {
        return noSet(set) ? no(-2) : Plain.turned(set);
    }

    int composed(int r, int s) {
        return noSet(r) || noSet(s) ? no(-2) : Plain.composed(r, s);
    }

    int near(int r, int s) {
        return noRelations(r, s) ? no(-1) : Plain.near(r, s) ? 1 : 0;
    }

    int steps(int r, int s) {
        return noRelations(r, s) ? no(-1) : Plain.STEPS[r][s];
    }

    int tell(int a, int b, int one, int other) {
        if (noThings(a, b)) {
            return no(-1);
        }
        if (noSet(one) || noSet(other)) {
            return no(-2);
        }
        if (statements.size() == 30) {
            return no(-6);
        }
        statements.add(new int[] {a, b, one, other, 1});
        return statements.size() - 1;
    }

    int silent(int statement, boolean on) {
        if (statement < 0 || statement >= statements.size()) {
            return no(-1);
        }
        int told = on ? 0 : 1;
        int answer = statements.get(statement)[4] == told ? 0 : 1;
        statements.get(statement)[4] = told;
        return answer;
    }

    int statement(int statement, int what) {
        if (statement < 0 || statement >= statements.size()) {
            return no(-1);
        }
        return what < 0 || what > 4 ? no(-2) : statements.get(statement)[what];
    }

    private int[][] net(int way, int chosen) {
        int[][] net = Plain.open();
        for (int i = 0; i < statements.size(); i++) {
            int[] s = statements.get(i);
            if (s[4] == 1 && (chosen & 1 << i) != 0) {
                Plain.narrow(net, s[0], s[1], s[2 + way]);
            }
        }
        return net;
    }

    int told(int way, int a, int b) {
        return noThings(a, b) ? no(-1) : noWay(way) ? no(-2) : net(way, -1)[a][b];
    }

    int closed(int way, int a, int b) {
        if (noThings(a, b)) {
            return no(-1);
        }
        if (noWay(way)) {
            return no(-2);
        }
        int[][] net = net(way, -1);
        Plain.close(net);
        return net[a][b];
    }

    private int[][] first(int way) {
        return Plain.first(net(way, -1));
    }

    int canBe(int way) {
        return noWay(way) ? no(-2) : first(way) == null ? 0 : 1;
    }

    int can(int way, int a, int b) {
        return noThings(a, b) ? no(-1) : noWay(way) ? no(-2) : Plain.can(net(way, -1), a, b);
    }

    int drawing(int way, int thing, int what) {
        if (thing < 0 || thing > 5) {
            return no(-1);
        }
        if (noWay(way) || what < 0 || what > 1) {
            return no(-2);
        }
        int[][] first = first(way);
        return first == null ? -9 : Plain.numbers(first)[thing * 2 + what];
    }

    int drawn(int way, int a, int b) {
        if (noThings(a, b)) {
            return no(-1);
        }
        if (noWay(way)) {
            return no(-2);
        }
        int[][] first = first(way);
        return first == null ? -9 : Integer.numberOfTrailingZeros(first[a][b]);
    }

    int core(int way) {
        if (noWay(way)) {
            return no(-2);
        }
        if (first(way) != null) {
            return 0;
        }
        int left = 0;
        for (int i = 0; i < statements.size(); i++) {
            left |= statements.get(i)[4] << i;
        }
        for (int i = statements.size() - 1; i >= 0; i--) {
            if (Plain.first(net(way, left & ~(1 << i))) == null) {
                left &= ~(1 << i);
            }
        }
        return left;
    }

    int word(int word, int way, int set) {
        if (noWord(word)) {
            return no(-1);
        }
        if (noWay(way) || noSet(set)) {
            return no(-2);
        }
        int was = words[word][way];
        words[word][way] = set;
        return was;
    }

    int say(int word, int a, int b) {
        return noWord(word) ? no(-1) : tell(a, b, words[word][0], words[word][1]);
    }

    int ask(int word, int a, int b) {
        if (noWord(word) || noThings(a, b)) {
            return no(-1);
        }
        if (first(0) == null || first(1) == null) {
            return -9;
        }
        int zero = Plain.can(net(0, -1), a, b);
        int one = Plain.can(net(1, -1), a, b);
        int bothZero = zero & words[word][0];
        int bothOne = one & words[word][1];
        return bothZero == zero && bothOne == one ? 1 : bothZero == 0 || bothOne == 0 ? 0 : 2;
    }

    int box(int thing, int a, int z, int b, int y) {
        if (thing < 0 || thing > 5) {
            return no(-1);
        }
        if (a < 0 || z < 0 || b < 0 || y < 0 || z <= a || y <= b) {
            return no(-4);
        }
        if (a > 99 || z > 99 || b > 99 || y > 99) {
            return no(-6);
        }
        int answer = boxes[thing] == null ? 1 : 0;
        boxes[thing] = new int[] {a, z, b, y};
        return answer;
    }

    int rub(int thing) {
        if (thing < 0 || thing > 5) {
            return no(-1);
        }
        if (boxes[thing] == null) {
            return no(-3);
        }
        boxes[thing] = null;
        return 1;
    }

    private int relation(int way, int a, int b) {
        int[] p = boxes[a];
        int[] q = boxes[b];
        int w = way * 2;
        return Plain.relation(p[w], p[w + 1], q[w], q[w + 1]);
    }

    private boolean undrawn(int a, int b) {
        return boxes[a] == null || boxes[b] == null;
    }

    private boolean agree(int a, int b, int one, int other) {
        return (one & 1 << relation(0, a, b)) != 0 && (other & 1 << relation(1, a, b)) != 0;
    }

    int read(int way, int a, int b) {
        return noThings(a, b) ? no(-1) : noWay(way) ? no(-2) : undrawn(a, b) ? no(-3) : relation(way, a, b);
    }

    int holds(int word, int a, int b) {
        if (noWord(word) || noThings(a, b)) {
            return no(-1);
        }
        return undrawn(a, b) ? no(-3) : agree(a, b, words[word][0], words[word][1]) ? 1 : 0;
    }

    int fits() {
        int found = 0;
        for (int[] s : statements) {
            if (s[4] == 1 && !undrawn(s[0], s[1]) && !agree(s[0], s[1], s[2], s[3])) {
                found++;
            }
        }
        return found;
    }

    int moved(int way, int a, int b) {
        if (noThings(a, b)) {
            return no(-1);
        }
        if (noWay(way)) {
            return no(-2);
        }
        if (undrawn(a, b)) {
            return no(-3);
        }
        int drawn = drawn(way, a, b);
        return drawn < 0 ? drawn : Plain.STEPS[relation(way, a, b)][drawn];
    }

    int count(int what) {
        if (what == 0) {
            return statements.size();
        }
        if (what == 1 || what == 2) {
            int found = 0;
            for (int[] s : statements) {
                found += what == 1 ? s[4] : 0;
            }
            for (int[] box : boxes) {
                found += what == 2 && box != null ? 1 : 0;
            }
            return found;
        }
        return what >= 11 && what <= 16 ? refusals[what] : -9;
    }
}
