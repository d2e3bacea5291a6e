import java.util.Arrays;

/**
 * Words for space: what is told of six things that lie along two ways, as sets of the thirteen
 * relations of stretches. A set is told as bits, bit r for relation r.
 */
public final class SpaceWords {
    private static final int THINGS = 6;
    private static final int WAYS = 2;
    private static final int WORDS = 8;
    private static final int RELATIONS = 13;
    private static final int ALL = 8191;
    private static final int MOST_STATEMENTS = 30;
    private static final int GREATEST_NUMBER = 99;

    private static final int NO_REFUSAL = 0;
    private static final int NOBODY = -1;
    private static final int OTHER = -2;
    private static final int STATE = -3;
    private static final int BELOW = -4;
    private static final int ROOM = -6;
    private static final int NOT_SO = -9;

    private final Statements statements;
    private final Way wayZero;
    private final Way wayOne;
    private final Boxes boxes;
    private final int[][] wordSets;
    private final int[] refusals;

    public SpaceWords() {
        statements = new Statements();
        Search search = new Search();
        wayZero = new Way(0, statements, search);
        wayOne = new Way(1, statements, search);
        boxes = new Boxes();
        wordSets = new int[WORDS][WAYS];
        for (int word = 0; word < WORDS; word++) {
            Arrays.fill(wordSets[word], ALL);
        }
        refusals = new int[1 - ROOM];
    }

    public int turned(int set) {
        if (!isSet(set)) {
            return refuse(OTHER);
        }
        return Relations.turn(set);
    }

    public int composed(int r, int s) {
        if (!isSet(r) || !isSet(s)) {
            return refuse(OTHER);
        }
        return Relations.compose(r, s, ALL);
    }

    public int near(int r, int s) {
        if (!isRelation(r) || !isRelation(s)) {
            return refuse(NOBODY);
        }
        return Relations.areNear(r, s) ? 1 : 0;
    }

    public int steps(int r, int s) {
        if (!isRelation(r) || !isRelation(s)) {
            return refuse(NOBODY);
        }
        return Relations.stepsBetween(r, s);
    }

    public int tell(int a, int b, int one, int other) {
        if (!areTwoThings(a, b)) {
            return refuse(NOBODY);
        }
        if (!isSet(one) || !isSet(other)) {
            return refuse(OTHER);
        }
        if (statements.isFull()) {
            return refuse(ROOM);
        }
        return statements.add(a, b, one, other);
    }

    public int silent(int statement, boolean on) {
        if (!statements.has(statement)) {
            return refuse(NOBODY);
        }
        return statements.turnSilent(statement, on) ? 1 : 0;
    }

    public int statement(int statement, int what) {
        if (!statements.has(statement)) {
            return refuse(NOBODY);
        }
        switch (what) {
            case 0:
                return statements.firstOf(statement);
            case 1:
                return statements.secondOf(statement);
            case 2:
                return statements.setOf(statement, 0);
            case 3:
                return statements.setOf(statement, 1);
            case 4:
                return statements.isTold(statement) ? 1 : 0;
            default:
                return refuse(OTHER);
        }
    }

    public int told(int way, int a, int b) {
        int refusal = refusalAlong(way, a, b);
        if (refusal != NO_REFUSAL) {
            return refuse(refusal);
        }
        return along(way).toldSet(a, b);
    }

    public int closed(int way, int a, int b) {
        int refusal = refusalAlong(way, a, b);
        if (refusal != NO_REFUSAL) {
            return refuse(refusal);
        }
        return along(way).closedSet(a, b);
    }

    public int canBe(int way) {
        if (!isWay(way)) {
            return refuse(OTHER);
        }
        return along(way).isPossible() ? 1 : 0;
    }

    public int can(int way, int a, int b) {
        int refusal = refusalAlong(way, a, b);
        if (refusal != NO_REFUSAL) {
            return refuse(refusal);
        }
        return along(way).canSet(a, b);
    }

    public int drawing(int way, int thing, int what) {
        if (!isThing(thing)) {
            return refuse(NOBODY);
        }
        if (!isWay(way) || what < 0 || what > 1) {
            return refuse(OTHER);
        }
        Way line = along(way);
        return line.isFirstDrawn() ? line.firstNumber(thing, what) : NOT_SO;
    }

    public int drawn(int way, int a, int b) {
        int refusal = refusalAlong(way, a, b);
        if (refusal != NO_REFUSAL) {
            return refuse(refusal);
        }
        Way line = along(way);
        return line.isFirstDrawn() ? line.firstRelation(a, b) : NOT_SO;
    }

    public int core(int way) {
        if (!isWay(way)) {
            return refuse(OTHER);
        }
        return along(way).coreBits();
    }

    public int word(int word, int way, int set) {
        if (!isWord(word)) {
            return refuse(NOBODY);
        }
        if (!isWay(way) || !isSet(set)) {
            return refuse(OTHER);
        }
        int before = wordSets[word][way];
        wordSets[word][way] = set;
        return before;
    }

    public int say(int word, int a, int b) {
        if (!isWord(word) || !areTwoThings(a, b)) {
            return refuse(NOBODY);
        }
        if (statements.isFull()) {
            return refuse(ROOM);
        }
        return statements.add(a, b, wordSets[word][0], wordSets[word][1]);
    }

    public int ask(int word, int a, int b) {
        if (!isWord(word) || !areTwoThings(a, b)) {
            return refuse(NOBODY);
        }
        if (!wayZero.isPossible() || !wayOne.isPossible()) {
            return NOT_SO;
        }
        int zero = wayZero.canSet(a, b);
        int one = wayOne.canSet(a, b);
        int wordZero = wordSets[word][0];
        int wordOne = wordSets[word][1];
        if ((zero & wordZero) == 0 || (one & wordOne) == 0) {
            return 0;
        }
        return Relations.isWithin(zero, wordZero) && Relations.isWithin(one, wordOne) ? 1 : 2;
    }

    public int box(int thing, int a, int z, int b, int y) {
        if (!isThing(thing)) {
            return refuse(NOBODY);
        }
        if (a < 0 || b < 0 || z <= a || y <= b) {
            return refuse(BELOW);
        }
        // The froms lie below the tos, so they need no look of their own.
        if (z > GREATEST_NUMBER || y > GREATEST_NUMBER) {
            return refuse(ROOM);
        }
        boolean wasThere = boxes.has(thing);
        boxes.draw(thing, a, z, b, y);
        return wasThere ? 0 : 1;
    }

    public int rub(int thing) {
        if (!isThing(thing)) {
            return refuse(NOBODY);
        }
        if (!boxes.has(thing)) {
            return refuse(STATE);
        }
        boxes.remove(thing);
        return 1;
    }

    public int read(int way, int a, int b) {
        int refusal = refusalAlong(way, a, b);
        if (refusal != NO_REFUSAL) {
            return refuse(refusal);
        }
        if (!boxes.haveBoth(a, b)) {
            return refuse(STATE);
        }
        return boxes.relation(way, a, b);
    }

    public int holds(int word, int a, int b) {
        if (!isWord(word) || !areTwoThings(a, b)) {
            return refuse(NOBODY);
        }
        if (!boxes.haveBoth(a, b)) {
            return refuse(STATE);
        }
        return boxes.agree(a, b, wordSets[word][0], wordSets[word][1]) ? 1 : 0;
    }

    public int fits() {
        int misfits = 0;
        for (int statement = 0; statement < statements.size(); statement++) {
            if (isMisfit(statement)) {
                misfits++;
            }
        }
        return misfits;
    }

    public int moved(int way, int a, int b) {
        int refusal = refusalAlong(way, a, b);
        if (refusal != NO_REFUSAL) {
            return refuse(refusal);
        }
        if (!boxes.haveBoth(a, b)) {
            return refuse(STATE);
        }
        Way line = along(way);
        if (!line.isFirstDrawn()) {
            return NOT_SO;
        }
        return Relations.stepsBetween(boxes.relation(way, a, b), line.firstRelation(a, b));
    }

    public int count(int what) {
        switch (what) {
            case 0:
                return statements.size();
            case 1:
                return statements.howManyTold();
            case 2:
                return boxes.howMany();
            default:
                return what >= 11 && what <= 16 ? refusals[what - 10] : NOT_SO;
        }
    }

    private boolean isMisfit(int statement) {
        int a = statements.firstOf(statement);
        int b = statements.secondOf(statement);
        if (!statements.isTold(statement) || !boxes.haveBoth(a, b)) {
            return false;
        }
        return !boxes.agree(a, b, statements.setOf(statement, 0), statements.setOf(statement, 1));
    }

    private int refuse(int refusal) {
        int place = -refusal;
        if (place >= 0 && place < refusals.length) {
            refusals[place]++;
        }
        return refusal;
    }

    private Way along(int way) {
        return way == 0 ? wayZero : wayOne;
    }

    private static int refusalAlong(int way, int a, int b) {
        if (!areTwoThings(a, b)) {
            return NOBODY;
        }
        return isWay(way) ? NO_REFUSAL : OTHER;
    }

    private static boolean isThing(int thing) {
        return thing >= 0 && thing < THINGS;
    }

    private static boolean areTwoThings(int a, int b) {
        return isThing(a) && isThing(b) && a != b;
    }

    private static boolean isWay(int way) {
        return way >= 0 && way < WAYS;
    }

    private static boolean isWord(int word) {
        return word >= 0 && word < WORDS;
    }

    private static boolean isRelation(int relation) {
        return relation >= 0 && relation < RELATIONS;
    }

    private static boolean isSet(int set) {
        return set >= 0 && set <= ALL;
    }

    /** The thirteen relations and what holds among them, whatever is told. */
    private static final class Relations {
        static final int LESS = 1;
        static final int ALIKE = 2;
        static final int GREATER = 4;

        /**
         * How p's A and Z lie to q's, by relation. The hex digits are A to A, A to Z, Z to A and
         * Z to Z: LESS, ALIKE or GREATER.
         */
        private static final int[] SIGNS = {
            0x1111, 0x1121, 0x1141, 0x2141, 0x4141, 0x4142, 0x2142,
            0x1142, 0x1144, 0x2144, 0x4144, 0x4244, 0x4444
        };

        /** The composed set of each two relations; the tests prove it from stretches. */
        private static final int[] COMPOSED = {
            1, 1, 1, 1, 31, 31, 1, 1, 1, 1, 31, 31, 8191,
            1, 1, 1, 2, 28, 28, 2, 1, 1, 2, 28, 224, 7936,
            1, 1, 7, 4, 28, 28, 4, 7, 391, 388, 2044, 1792, 7936,
            1, 1, 7, 8, 16, 16, 8, 7, 391, 584, 1072, 2048, 4096,
            1, 1, 31, 16, 16, 16, 16, 31, 8191, 7216, 7216, 4096, 4096,
            1, 2, 28, 16, 16, 32, 32, 224, 7936, 7168, 7168, 4096, 4096,
            1, 2, 4, 8, 16, 32, 64, 128, 256, 512, 1024, 2048, 4096,
            1, 2, 4, 4, 28, 224, 128, 128, 256, 256, 1792, 1792, 7936,
            391, 388, 388, 388, 2044, 1792, 256, 256, 256, 256, 1792, 1792, 7936,
            391, 388, 388, 584, 1072, 1024, 512, 256, 256, 512, 1024, 2048, 4096,
            391, 388, 2044, 1072, 1072, 1024, 1024, 1792, 7936, 7168, 7168, 4096, 4096,
            391, 584, 1072, 1072, 1072, 2048, 2048, 2048, 4096, 4096, 4096, 4096, 4096,
            8191, 7216, 7216, 7216, 7216, 4096, 4096, 4096, 4096, 4096, 4096, 4096, 4096
        };

        /** The set of those near to each relation; the tests prove it from stretches. */
        private static final int[] NEAR = {
            2, 141, 138, 86, 40, 3152, 680, 326, 640, 3392, 2592, 5664, 2048
        };

        /** The relations in which no two of the four numbers are alike. */
        private static final int NONE_ALIKE = 0x1515;

        /** The set of the relation of a stretch to itself. */
        static final int SAME = 0x0040;

        static int turn(int set) {
            int turned = 0;
            for (int relation = 0; relation < RELATIONS; relation++) {
                turned = turned << 1 | set >> relation & 1;
            }
            return turned;
        }

        static boolean isWithin(int set, int greater) {
            return (set & ~greater) == 0;
        }

        /** What of a set is in the composed one of r and s. */
        static int compose(int r, int s, int within) {
            if (r == 0 || s == 0) {
                return 0;
            }
            if (r == ALL || s == ALL) {
                return within;
            }
            int found = 0;
            for (int relation = 0; relation < RELATIONS; relation++) {
                if ((r >> relation & 1) != 0) {
                    int row = relation * RELATIONS;
                    for (int other = 0; other < RELATIONS; other++) {
                        if ((s >> other & 1) != 0) {
                            found |= COMPOSED[row + other];
                        }
                    }
                    if ((within & ~found) == 0) {
                        return within;
                    }
                }
            }
            return found & within;
        }

        static boolean areNear(int r, int s) {
            return (NEAR[r] >> s & 1) != 0;
        }

        static int stepsBetween(int r, int s) {
            int reached = 1 << r;
            for (int moves = 0; moves < RELATIONS; moves++) {
                if ((reached >> s & 1) != 0) {
                    return moves;
                }
                reached |= allNear(reached);
            }
            return RELATIONS;
        }

        private static int allNear(int set) {
            int found = 0;
            for (int relation = 0; relation < RELATIONS; relation++) {
                if ((set >> relation & 1) != 0) {
                    found |= NEAR[relation];
                }
            }
            return found;
        }

        /** The relation of the stretch from a to z to that from b to y. */
        static int between(int a, int z, int b, int y) {
            int signs = sign(a, b) << 12 | sign(a, y) << 8 | sign(z, b) << 4 | sign(z, y);
            int found = 0;
            for (int relation = 0; relation < RELATIONS; relation++) {
                if (SIGNS[relation] == signs) {
                    found = relation;
                }
            }
            return found;
        }

        private static int sign(int number, int other) {
            return number < other ? LESS : number == other ? ALIKE : GREATER;
        }

        /** How an end of p (0 A, 1 Z) lies to one of q: LESS, ALIKE or GREATER. */
        static int signOfEnds(int relation, int end, int otherEnd) {
            int digit = 3 - (end * 2 + otherEnd);
            return SIGNS[relation] >> digit * 4 & 7;
        }

        static int least(int set) {
            for (int relation = 0; relation < RELATIONS; relation++) {
                if ((set >> relation & 1) != 0) {
                    return relation;
                }
            }
            return 0;
        }

        /**
         * Whether closing by paths is enough for a set: where all sets of a closed net are such and
         * none is empty, it can be. These are the ORD-Horn sets, 868 of 8192: no relation without
         * alike numbers is missing whose signs are all found in the set, be it in different ones.
         */
        static boolean isPlain(int set) {
            int signs = allSigns(set);
            int missing = NONE_ALIKE & ~set;
            for (int relation = 0; relation < RELATIONS; relation++) {
                if ((missing >> relation & 1) != 0 && (SIGNS[relation] & ~signs) == 0) {
                    return false;
                }
            }
            return true;
        }

        private static int allSigns(int set) {
            int signs = 0;
            for (int relation = 0; relation < RELATIONS; relation++) {
                if ((set >> relation & 1) != 0) {
                    signs |= SIGNS[relation];
                }
            }
            return signs;
        }
    }

    /** Nets: the sets of each two things, at a * 6 + b; turned ones always go together. */
    private static final class Nets {
        static final int SIZE = THINGS * THINGS;
        static final int PAIRS = 15;
        static final int EVERY_PAIR = (1 << PAIRS) - 1;

        /** The pairs in the order in which the first drawing takes them. */
        private static final int[] FIRST = {0, 0, 0, 0, 0, 1, 1, 1, 1, 2, 2, 2, 3, 3, 4};
        private static final int[] SECOND = {1, 2, 3, 4, 5, 2, 3, 4, 5, 3, 4, 5, 4, 5, 5};

        /** A set shrinks thirteen times at most, and each time its pair is looked at once more. */
        private static final int MOST_ROUNDS = PAIRS * (RELATIONS + 1);

        /** Told beside the pairs that changed: a set has become empty. */
        private static final int EMPTIED = 1 << PAIRS;

        static int pairOf(int a, int b) {
            int lesser = a < b ? a : b;
            int greater = a < b ? b : a;
            int ahead = lesser * (2 * THINGS - 1 - lesser) / 2;
            return ahead + greater - lesser - 1;
        }

        static int firstOf(int pair) {
            return FIRST[pair];
        }

        static int secondOf(int pair) {
            return SECOND[pair];
        }

        /** A net of which nothing is told. */
        static void open(int[] net) {
            Arrays.fill(net, ALL);
            for (int thing = 0; thing < THINGS; thing++) {
                net[thing * THINGS + thing] = Relations.SAME;
            }
        }

        static void put(int[] net, int a, int b, int set) {
            net[a * THINGS + b] = set;
            net[b * THINGS + a] = Relations.turn(set);
        }

        /** Closes by paths, from pairs that changed on; false if a set is empty: then all are. */
        static boolean close(int[] net, int changedPairs) {
            int waiting = changedPairs;
            for (int round = 0; round < MOST_ROUNDS && waiting != 0; round++) {
                for (int pair = 0; pair < PAIRS; pair++) {
                    if ((waiting >> pair & 1) != 0) {
                        int a = FIRST[pair];
                        int b = SECOND[pair];
                        waiting &= ~(1 << pair);
                        for (int m = 0; m < THINGS; m++) {
                            if (m != a && m != b) {
                                waiting |= narrow(net, a, b, m) | narrow(net, b, a, m);
                            }
                        }
                        if ((waiting & EMPTIED) != 0) {
                            Arrays.fill(net, 0);
                            return false;
                        }
                    }
                }
            }
            return true;
        }

        /** Narrows the set of a and b by the path over m; the pair if it changed, or EMPTIED. */
        private static int narrow(int[] net, int a, int m, int b) {
            int set = net[a * THINGS + b];
            int left = Relations.compose(net[a * THINGS + m], net[m * THINGS + b], set);
            if (left == 0) {
                return EMPTIED;
            }
            if (left == set) {
                return 0;
            }
            net[a * THINGS + b] = left;
            net[b * THINGS + a] = Relations.turn(left);
            return 1 << pairOf(a, b);
        }
    }

    /** Looks whether closed nets can be, level by level; its rows serve every search. */
    private static final class Search {
        /** Each level narrows one pair more to one relation. */
        private static final int DEEPEST = Nets.PAIRS;

        private final int[][] levels;

        Search() {
            levels = new int[DEEPEST + 1][Nets.SIZE];
        }

        /** Whether a closed net without empty sets can be. */
        boolean canHold(int[] net) {
            System.arraycopy(net, 0, levels[0], 0, Nets.SIZE);
            return settles(levels, 0);
        }

        /** Whether a closed net can be with a relation of a to b; keepNet tells it closed so. */
        boolean canHoldWith(int[] net, int a, int b, int relation) {
            int[] tried = levels[0];
            System.arraycopy(net, 0, tried, 0, Nets.SIZE);
            Nets.put(tried, a, b, 1 << relation);
            return Nets.close(tried, 1 << Nets.pairOf(a, b)) && settles(levels, 0);
        }

        void keepNet(int[] net) {
            System.arraycopy(levels[0], 0, net, 0, Nets.SIZE);
        }

        private static boolean settles(int[][] levels, int depth) {
            int[] net = levels[depth];
            int pair = pairToSplit(net);
            if (pair < 0) {
                return true;
            }
            if (depth >= DEEPEST) {
                return false;
            }
            int a = Nets.firstOf(pair);
            int b = Nets.secondOf(pair);
            int set = net[a * THINGS + b];
            int[] next = levels[depth + 1];
            for (int relation = 0; relation < RELATIONS; relation++) {
                if ((set >> relation & 1) != 0) {
                    System.arraycopy(net, 0, next, 0, Nets.SIZE);
                    Nets.put(next, a, b, 1 << relation);
                    if (Nets.close(next, 1 << pair) && settles(levels, depth + 1)) {
                        return true;
                    }
                }
            }
            return false;
        }

        /** Of the pairs that closing alone does not settle, one with the fewest relations; or -1. */
        private static int pairToSplit(int[] net) {
            int best = -1;
            int fewest = RELATIONS + 1;
            for (int pair = 0; pair < Nets.PAIRS; pair++) {
                int set = net[Nets.firstOf(pair) * THINGS + Nets.secondOf(pair)];
                int size = Integer.bitCount(set);
                if (size < fewest && !Relations.isPlain(set)) {
                    best = pair;
                    fewest = size;
                }
            }
            return best;
        }
    }

    /** The statements, told or silent. */
    private static final class Statements {
        private final int[] firsts;
        private final int[] seconds;
        private final int[][] sets;
        private final boolean[] tolds;
        private int size;
        private int changes;

        Statements() {
            firsts = new int[MOST_STATEMENTS];
            seconds = new int[MOST_STATEMENTS];
            sets = new int[WAYS][MOST_STATEMENTS];
            tolds = new boolean[MOST_STATEMENTS];
        }

        int size() {
            return size;
        }

        /** How often what is told has changed: what was found before a change is stale. */
        int changes() {
            return changes;
        }

        boolean isFull() {
            return size >= MOST_STATEMENTS;
        }

        boolean has(int statement) {
            return statement >= 0 && statement < size;
        }

        int firstOf(int statement) {
            return firsts[statement];
        }

        int secondOf(int statement) {
            return seconds[statement];
        }

        int setOf(int statement, int way) {
            return sets[way][statement];
        }

        boolean isTold(int statement) {
            return tolds[statement];
        }

        int add(int a, int b, int one, int other) {
            if (isFull()) {
                return ROOM;
            }
            int statement = size;
            firsts[statement] = a;
            seconds[statement] = b;
            sets[0][statement] = one;
            sets[1][statement] = other;
            tolds[statement] = true;
            size++;
            changes++;
            return statement;
        }

        /** Makes a statement silent, or told; whether it was not so before. */
        boolean turnSilent(int statement, boolean on) {
            boolean toldNow = !on;
            if (tolds[statement] == toldNow) {
                return false;
            }
            tolds[statement] = toldNow;
            changes++;
            return true;
        }

        int howManyTold() {
            return Integer.bitCount(toldBits());
        }

        int toldBits() {
            int bits = 0;
            for (int statement = 0; statement < size; statement++) {
                if (tolds[statement]) {
                    bits |= 1 << statement;
                }
            }
            return bits;
        }

        /** Writes the net that some statements, as bits, let along a way. */
        void writeNet(int way, int chosen, int[] net) {
            Nets.open(net);
            for (int statement = 0; statement < size; statement++) {
                if ((chosen >> statement & 1) != 0) {
                    int a = firsts[statement];
                    int b = seconds[statement];
                    Nets.put(net, a, b, net[a * THINGS + b] & sets[way][statement]);
                }
            }
        }
    }

    /** What is found of all that is told along one way; kept until what is told changes. */
    private static final class Way {
        private static final int UNKNOWN = -1;
        private static final int ENDS = THINGS * 2;

        private final int way;
        private final Statements statements;
        private final Search search;
        private final int[] toldNet;
        private final int[] closedNet;
        private final int[] firstNet;
        private final int[] trialNet;
        private final int[] canSets;
        private final int[] firstNumbers;
        private int changesSeen;
        private int possible;
        private int coreFound;
        private boolean firstIsKnown;

        Way(int way, Statements statements, Search search) {
            this.way = way;
            this.statements = statements;
            this.search = search;
            toldNet = new int[Nets.SIZE];
            closedNet = new int[Nets.SIZE];
            firstNet = new int[Nets.SIZE];
            trialNet = new int[Nets.SIZE];
            canSets = new int[Nets.SIZE];
            firstNumbers = new int[ENDS];
            changesSeen = UNKNOWN;
        }

        int toldSet(int a, int b) {
            refresh();
            return toldNet[a * THINGS + b];
        }

        int closedSet(int a, int b) {
            refresh();
            return closedNet[a * THINGS + b];
        }

        boolean isPossible() {
            refresh();
            if (possible == UNKNOWN) {
                possible = search.canHold(closedNet) ? 1 : 0;
            }
            return possible == 1;
        }

        int canSet(int a, int b) {
            if (!isPossible()) {
                return 0;
            }
            int place = a * THINGS + b;
            if (canSets[place] == UNKNOWN) {
                int found = 0;
                for (int relation = 0; relation < RELATIONS; relation++) {
                    if ((closedNet[place] >> relation & 1) != 0
                            && search.canHoldWith(closedNet, a, b, relation)) {
                        found |= 1 << relation;
                    }
                }
                Nets.put(canSets, a, b, found);
            }
            return canSets[place];
        }

        /** Draws the first drawing, if it can be; whether it is there. */
        boolean isFirstDrawn() {
            if (!isPossible()) {
                return false;
            }
            if (!firstIsKnown) {
                System.arraycopy(closedNet, 0, firstNet, 0, Nets.SIZE);
                for (int pair = 0; pair < Nets.PAIRS; pair++) {
                    takeLeast(Nets.firstOf(pair), Nets.secondOf(pair));
                }
                numberEnds();
                firstIsKnown = true;
            }
            return true;
        }

        int firstRelation(int a, int b) {
            return Relations.least(firstNet[a * THINGS + b]);
        }

        /** The number of a thing's A (end 0) or Z (1) in the first drawing. */
        int firstNumber(int thing, int end) {
            return firstNumbers[thing * 2 + end];
        }

        int coreBits() {
            if (isPossible()) {
                return 0;
            }
            if (coreFound == UNKNOWN) {
                coreFound = findCore();
            }
            return coreFound;
        }

        private void refresh() {
            if (changesSeen == statements.changes()) {
                return;
            }
            changesSeen = statements.changes();
            statements.writeNet(way, statements.toldBits(), toldNet);
            System.arraycopy(toldNet, 0, closedNet, 0, Nets.SIZE);
            possible = Nets.close(closedNet, Nets.EVERY_PAIR) ? UNKNOWN : 0;
            coreFound = UNKNOWN;
            firstIsKnown = false;
            Arrays.fill(canSets, UNKNOWN);
        }

        private int findCore() {
            int kept = statements.toldBits();
            for (int statement = statements.size() - 1; statement >= 0; statement--) {
                int without = kept & ~(1 << statement);
                if (without != kept) {
                    statements.writeNet(way, without, trialNet);
                    if (!Nets.close(trialNet, Nets.EVERY_PAIR) || !search.canHold(trialNet)) {
                        kept = without;
                    }
                }
            }
            return kept;
        }

        /** Narrows the first drawing's net to the least relation of a to b with which it can be. */
        private void takeLeast(int a, int b) {
            int set = firstNet[a * THINGS + b];
            for (int relation = 0; relation < RELATIONS; relation++) {
                if ((set >> relation & 1) != 0
                        && search.canHoldWith(firstNet, a, b, relation)) {
                    search.keepNet(firstNet);
                    return;
                }
            }
        }

        /** Each end counts the different ends below it, each of them by the first of its likes. */
        private void numberEnds() {
            Arrays.fill(firstNumbers, 0);
            for (int below = 0; below < ENDS; below++) {
                if (isFirstOfItsLikes(below)) {
                    for (int end = 0; end < ENDS; end++) {
                        if (signOfEnds(below, end) == Relations.LESS) {
                            firstNumbers[end]++;
                        }
                    }
                }
            }
        }

        private boolean isFirstOfItsLikes(int end) {
            for (int other = 0; other < end; other++) {
                if (signOfEnds(other, end) == Relations.ALIKE) {
                    return false;
                }
            }
            return true;
        }

        private int signOfEnds(int end, int other) {
            int set = firstNet[end / 2 * THINGS + other / 2];
            return Relations.signOfEnds(Relations.least(set), end % 2, other % 2);
        }
    }

    /** The boxes: at thing * 4 way 0 from, to, way 1 from, to. */
    private static final class Boxes {
        private static final int NUMBERS = 4;

        private final int[] numbers;
        private final boolean[] there;

        Boxes() {
            numbers = new int[THINGS * NUMBERS];
            there = new boolean[THINGS];
        }

        boolean has(int thing) {
            return there[thing];
        }

        boolean haveBoth(int a, int b) {
            return there[a] && there[b];
        }

        void draw(int thing, int a, int z, int b, int y) {
            int place = thing * NUMBERS;
            numbers[place] = a;
            numbers[place + 1] = z;
            numbers[place + 2] = b;
            numbers[place + 3] = y;
            there[thing] = true;
        }

        void remove(int thing) {
            there[thing] = false;
        }

        int howMany() {
            int found = 0;
            for (int thing = 0; thing < THINGS; thing++) {
                if (there[thing]) {
                    found++;
                }
            }
            return found;
        }

        int relation(int way, int a, int b) {
            int p = a * NUMBERS + way * 2;
            int q = b * NUMBERS + way * 2;
            return Relations.between(numbers[p], numbers[p + 1], numbers[q], numbers[q + 1]);
        }

        /** Whether two boxes have a relation of the one set along way 0, of the other along 1. */
        boolean agree(int a, int b, int one, int other) {
            return (one >> relation(0, a, b) & 1) != 0 && (other >> relation(1, a, b) & 1) != 0;
        }
    }
}
