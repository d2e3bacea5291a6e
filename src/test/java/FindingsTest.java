import java.util.ArrayList;
import java.util.Arrays;
import java.util.HashSet;
import java.util.List;
import java.util.Random;
import java.util.Set;

/** Promises 10 to 15: closed, canBe, can, drawing, drawn, core. */
public final class FindingsTest {
    private static final Checks CHECKS = new Checks();

    public static void main(String[] args) {
        closingNarrows();
        closingIsNotAll();
        oneSetTooMany();
        emptySets();
        firstDrawing();
        cores();
        waysAreApart();
        refusals();
        fourThings();
        sixThings();
        closingSpreads();
        hardNets();
        CHECKS.done("FindingsTest");
    }

    private static void closingNarrows() {
        SpaceWords x = new SpaceWords();
        x.tell(0, 1, 1, 8191);
        x.tell(1, 2, 2, 8191);
        x.tell(2, 3, 8, 8191);
        CHECKS.due("closed(0, 0, 2)", x.closed(0, 0, 2), 1);
        CHECKS.due("closed(0, 2, 0)", x.closed(0, 2, 0), 4096);
        CHECKS.due("closed(0, 1, 3)", x.closed(0, 1, 3), 2);
        CHECKS.due("closed(0, 0, 3)", x.closed(0, 0, 3), 1);
        CHECKS.due("closed(0, 0, 4)", x.closed(0, 0, 4), 8191);
        CHECKS.due("closed(1, 0, 2)", x.closed(1, 0, 2), 8191);
    }

    /** A net of four things that is closed without an empty set and yet can't be. */
    private static void closingIsNotAll() {
        SpaceWords x = new SpaceWords();
        x.tell(0, 1, 9, 8191);
        x.tell(0, 2, 4176, 8191);
        x.tell(0, 3, 1033, 8191);
        x.tell(1, 2, 608, 8191);
        x.tell(1, 3, 144, 8191);
        x.tell(2, 3, 26, 8191);
        CHECKS.due("closed", x.closed(0, 0, 1), 9);
        CHECKS.due("closed", x.closed(0, 3, 1), Plain.turned(144));
        CHECKS.due("canBe", x.canBe(0), 0);
        CHECKS.due("can", x.can(0, 0, 1), 0);
        CHECKS.due("can of the free", x.can(0, 4, 5), 0);
        CHECKS.due("drawing", x.drawing(0, 4, 0), -9);
        CHECKS.due("drawn", x.drawn(0, 4, 5), -9);
        CHECKS.due("core", x.core(0), 63);
        CHECKS.due("core(1)", x.core(1), 0);
        x.silent(5, true);
        CHECKS.due("canBe", x.canBe(0), 1);
        CHECKS.due("core", x.core(0), 0);
        // One set for all pairs of five things.
        for (int set : new int[] {1025, 1057}) {
            SpaceWords y = new SpaceWords();
            int[][] pairs = {{0, 1}, {0, 2}, {0, 3}, {1, 2}, {1, 4}, {2, 3}, {2, 4}, {3, 4}, {4, 0}, {3, 1}};
            for (int[] pair : pairs) {
                y.tell(pair[0], pair[1], set, 8191);
            }
            CHECKS.due("closed of " + set, y.closed(0, 0, 1), set);
            CHECKS.due("canBe of " + set, y.canBe(0), 0);
            CHECKS.due("core of " + set, y.core(0), 1023);
        }
    }

    /** A set that alone of all asks for a search, whichever pair it is of. */
    private static void oneSetTooMany() {
        for (int a = 0; a < 6; a++) {
            for (int b = 0; b < 6; b++) {
                if (a != b) {
                    oneSetTooMany(a, b);
                }
            }
        }
    }

    private static void oneSetTooMany(int a, int b) {
        SpaceWords x = new SpaceWords();
        String pair = " of " + a + " and " + b;
        tellNothingAlike(x, a, b);
        CHECKS.due("closed, A and Z less or alike" + pair, x.closed(1, a, b), 207);
        CHECKS.due("can, A and Z less" + pair, x.can(1, a, b), 7);
        CHECKS.due("can, turned" + pair, x.can(1, b, a), 7168);
        x.tell(a, b, 8191, 200);
        CHECKS.due("closed, A or Z alike" + pair, x.closed(1, a, b), 200);
        CHECKS.due("canBe, A or Z alike" + pair, x.canBe(1), 0);
        CHECKS.due("can, A or Z alike" + pair, x.can(1, a, b), 0);
        CHECKS.due("core, A or Z alike" + pair, x.core(1), 2047);
        CHECKS.due("drawn, A or Z alike" + pair, x.drawn(1, a, b), -9);
        x.silent(4, true);
        CHECKS.due("can, but for different A" + pair, x.can(1, a, b), 8);
        CHECKS.due("drawn, but for different A" + pair, x.drawn(1, a, b), 3);
        x.silent(4, false);
        x.silent(9, true);
        CHECKS.due("can, but for different Z" + pair, x.can(1, a, b), 128);
        CHECKS.due("drawn, but for different Z" + pair, x.drawn(1, b, a), 5);
    }

    /**
     * Tells, along way 1, of the other four that a and b have neither A nor Z alike, which no
     * closing sees: two of them have different A that lie from a's to b's, two have such Z.
     */
    private static void tellNothingAlike(SpaceWords x, int a, int b) {
        int lessOrAlikeA = 975;
        int lessOrAlikeZ = 255;
        int differentA = 7607;
        int differentZ = 7967;
        int[] others = othersThan(a, b);
        for (int i = 0; i < 4; i++) {
            int set = i < 2 ? lessOrAlikeA : lessOrAlikeZ;
            x.tell(a, others[i], 8191, set);
            x.tell(others[i], b, 8191, set);
            if (i % 2 == 1) {
                x.tell(others[i - 1], others[i], 8191, i < 2 ? differentA : differentZ);
            }
        }
    }

    private static int[] othersThan(int a, int b) {
        int[] others = new int[4];
        int found = 0;
        for (int thing = 0; thing < 6; thing++) {
            if (thing != a && thing != b) {
                others[found++] = thing;
            }
        }
        return others;
    }

    private static void emptySets() {
        SpaceWords x = new SpaceWords();
        x.tell(2, 3, 8191, 8191);
        x.tell(4, 5, 0, 8191);
        for (int a = 0; a < 6; a++) {
            for (int b = 0; b < 6; b++) {
                if (a != b) {
                    CHECKS.due("closed, all empty", x.closed(0, a, b), 0);
                    CHECKS.due("can, none", x.can(0, a, b), 0);
                    CHECKS.due("drawn, none", x.drawn(0, a, b), -9);
                    CHECKS.due("closed along way 1", x.closed(1, a, b), 8191);
                }
            }
        }
        CHECKS.due("told", x.told(0, 2, 3), 8191);
        CHECKS.due("canBe", x.canBe(0), 0);
        CHECKS.due("core", x.core(0), 2);
        CHECKS.due("-9 is no refusal", x.count(11) + x.count(12) + x.count(13), 0);
    }

    private static void firstDrawing() {
        SpaceWords x = new SpaceWords();
        for (int a = 0; a < 6; a++) {
            for (int b = a + 1; b < 6; b++) {
                x.tell(a, b, 64, 8191 - 1);
            }
        }
        for (int a = 0; a < 6; a++) {
            CHECKS.due("all alike A", x.drawing(0, a, 0), 0);
            CHECKS.due("all alike Z", x.drawing(0, a, 1), 1);
        }
        CHECKS.due("all alike", x.drawn(0, 5, 2), 6);
        // 0 meets all the others; these can't lie ahead of one another and all begin there.
        CHECKS.due("drawn(1, 0, 5)", x.drawn(1, 0, 5), 1);
        CHECKS.due("drawn(1, 1, 2)", x.drawn(1, 1, 2), 3);
        CHECKS.due("drawn(1, 2, 1)", x.drawn(1, 2, 1), 9);
        CHECKS.due("drawing(1, 5, 0)", x.drawing(1, 5, 0), 1);
        CHECKS.due("drawing(1, 5, 1)", x.drawing(1, 5, 1), 6);
        SpaceWords y = new SpaceWords();
        y.tell(5, 0, 1, 8191);
        CHECKS.due("drawn(0, 0, 4)", y.drawn(0, 0, 4), 0);
        CHECKS.due("drawn(0, 0, 5)", y.drawn(0, 0, 5), 12);
        CHECKS.due("drawing(0, 5, 0)", y.drawing(0, 5, 0), 0);
        CHECKS.due("drawing(0, 0, 0)", y.drawing(0, 0, 0), 2);
        CHECKS.due("drawing(0, 4, 1)", y.drawing(0, 4, 1), 11);
    }

    private static void cores() {
        SpaceWords x = new SpaceWords();
        x.tell(0, 1, 1, 8191);
        x.tell(1, 2, 1, 8191);
        x.tell(2, 0, 1, 8191);
        x.tell(3, 4, 1, 8191);
        x.tell(4, 3, 1, 8191);
        x.tell(0, 1, 1, 8191);
        CHECKS.due("the last are left out first", x.core(0), 7);
        x.silent(0, true);
        CHECKS.due("silent ones don't count", x.core(0), 24);
        x.silent(3, true);
        CHECKS.due("the other way round", x.core(0), 38);
        x.silent(5, true);
        CHECKS.due("it can be", x.core(0), 0);
        x.silent(0, false);
        x.tell(0, 5, 0, 8191);
        CHECKS.due("a chain ahead of an empty one", x.core(0), 7);
        x.silent(2, true);
        CHECKS.due("an empty one alone", x.core(0), 64);
    }

    private static void waysAreApart() {
        SpaceWords x = new SpaceWords();
        x.tell(0, 1, 0, 64);
        CHECKS.due("canBe(0)", x.canBe(0), 0);
        CHECKS.due("canBe(1)", x.canBe(1), 1);
        CHECKS.due("can(1)", x.can(1, 0, 1), 64);
        CHECKS.due("core(0)", x.core(0), 1);
        CHECKS.due("core(1)", x.core(1), 0);
        CHECKS.due("drawing(1, 1, 1)", x.drawing(1, 1, 1), 1);
        CHECKS.due("drawing(0, 1, 1)", x.drawing(0, 1, 1), -9);
    }

    private static void refusals() {
        SpaceWords x = new SpaceWords();
        x.tell(0, 1, 0, 0);
        int[] noWays = {-1, 2, Integer.MIN_VALUE, Integer.MAX_VALUE};
        int[] noThings = {-1, 6, Integer.MIN_VALUE, Integer.MAX_VALUE};
        int others = 0;
        int nobodies = 0;
        for (int no : noWays) {
            CHECKS.due("closed(" + no + ", 0, 1)", x.closed(no, 0, 1), -2);
            CHECKS.due("canBe(" + no + ")", x.canBe(no), -2);
            CHECKS.due("can(" + no + ", 0, 1)", x.can(no, 0, 1), -2);
            CHECKS.due("drawing(" + no + ", 0, 1)", x.drawing(no, 0, 1), -2);
            CHECKS.due("drawing(0, 0, " + no + ")", x.drawing(0, 0, no), -2);
            CHECKS.due("drawn(" + no + ", 0, 1)", x.drawn(no, 0, 1), -2);
            CHECKS.due("core(" + no + ")", x.core(no), -2);
            others += 7;
        }
        for (int no : noThings) {
            CHECKS.due("closed(9, " + no + ", 1)", x.closed(9, no, 1), -1);
            CHECKS.due("closed(0, 1, " + no + ")", x.closed(0, 1, no), -1);
            CHECKS.due("can(9, " + no + ", 1)", x.can(9, no, 1), -1);
            CHECKS.due("can(0, 1, " + no + ")", x.can(0, 1, no), -1);
            CHECKS.due("drawing(9, " + no + ", 9)", x.drawing(9, no, 9), -1);
            CHECKS.due("drawing(0, " + no + ", 0)", x.drawing(0, no, 0), -1);
            CHECKS.due("drawn(9, " + no + ", 1)", x.drawn(9, no, 1), -1);
            CHECKS.due("drawn(0, 1, " + no + ")", x.drawn(0, 1, no), -1);
            nobodies += 8;
        }
        CHECKS.due("closed(9, 2, 2)", x.closed(9, 2, 2), -1);
        CHECKS.due("can(0, 2, 2)", x.can(0, 2, 2), -1);
        CHECKS.due("drawn(0, 2, 2)", x.drawn(0, 2, 2), -1);
        CHECKS.due("count(11)", x.count(11), nobodies + 3);
        CHECKS.due("count(12)", x.count(12), others);
    }

    /** All ways in which four stretches can lie, each as the relations of its six pairs. */
    private static List<int[]> allOfFour() {
        Set<List<Integer>> seen = new HashSet<>();
        List<int[]> found = new ArrayList<>();
        int[][] s = Plain.STRETCHES;
        int[] n = new int[8];
        for (int code = 0; code < s.length * s.length * s.length * s.length; code++) {
            int rest = code;
            int used = 0;
            for (int thing = 0; thing < 4; thing++) {
                int[] stretch = s[rest % s.length];
                rest /= s.length;
                n[thing * 2] = stretch[0];
                n[thing * 2 + 1] = stretch[1];
                used |= 1 << stretch[0] | 1 << stretch[1];
            }
            // Only numbers from 0 on without a gap: others lie alike.
            if ((used & used + 1) != 0) {
                continue;
            }
            int[] relations = new int[6];
            int pair = 0;
            for (int a = 0; a < 4; a++) {
                for (int b = a + 1; b < 4; b++) {
                    relations[pair++] = Plain.relation(n[a * 2], n[a * 2 + 1], n[b * 2], n[b * 2 + 1]);
                }
            }
            if (seen.add(Arrays.stream(relations).boxed().toList())) {
                found.add(relations);
            }
        }
        found.sort(Arrays::compare);
        return found;
    }

    /** Against every way in which four stretches can lie, without any closing. */
    private static void fourThings() {
        List<int[]> all = allOfFour();
        CHECKS.due("ways of four stretches", all.size(), 23917);
        Random random = new Random(5);
        int[][] chosen = {{0, 1, 2, 3}, {0, 2, 3, 5}, {1, 2, 4, 5}, {2, 3, 4, 5}};
        for (int round = 0; round < 1500; round++) {
            int[] things = chosen[random.nextInt(chosen.length)];
            int[] sets = new int[6];
            for (int pair = 0; pair < 6; pair++) {
                int bits = 1 + random.nextInt(5);
                while (Integer.bitCount(sets[pair]) < bits) {
                    sets[pair] |= 1 << random.nextInt(13);
                }
            }
            compareFour(all, things, sets, round);
        }
    }

    private static void compareFour(List<int[]> all, int[] things, int[] sets, int round) {
        SpaceWords x = new SpaceWords();
        int pair = 0;
        for (int a = 0; a < 4; a++) {
            for (int b = a + 1; b < 4; b++) {
                if (pair % 2 == 0) {
                    x.tell(things[a], things[b], 8191, sets[pair]);
                } else {
                    x.tell(things[b], things[a], 8191, Plain.turned(sets[pair]));
                }
                pair++;
            }
        }
        int[] first = null;
        int[] can = new int[6];
        for (int[] relations : all) {
            boolean fits = true;
            for (int i = 0; i < 6 && fits; i++) {
                fits = (sets[i] & 1 << relations[i]) != 0;
            }
            if (fits) {
                first = first == null ? relations : first;
                for (int i = 0; i < 6; i++) {
                    can[i] |= 1 << relations[i];
                }
            }
        }
        CHECKS.due("four " + round + ": canBe", x.canBe(1), first == null ? 0 : 1);
        pair = 0;
        for (int a = 0; a < 4; a++) {
            for (int b = a + 1; b < 4; b++) {
                CHECKS.due("four " + round + ": can", x.can(1, things[a], things[b]), can[pair]);
                CHECKS.due("four " + round + ": drawn", x.drawn(1, things[a], things[b]), first == null ? -9 : first[pair]);
                pair++;
            }
        }
    }

    /** Against the plain Model, nets of all six things from loose to tight ones. */
    private static void sixThings() {
        Random random = new Random(17);
        for (int round = 0; round < 120; round++) {
            SpaceWords x = new SpaceWords();
            Model m = new Model();
            int tightness = 2 + round % 6;
            for (int i = 0; i < 20; i++) {
                int a = random.nextInt(6);
                int b = (a + 1 + random.nextInt(5)) % 6;
                int set = 0;
                for (int r = 0; r < 13; r++) {
                    set |= random.nextInt(10) < tightness ? 1 << r : 0;
                }
                CHECKS.due("tell", x.tell(a, b, set, 8191), m.tell(a, b, set, 8191));
            }
            CHECKS.due("six " + round + ": canBe", x.canBe(0), m.canBe(0));
            CHECKS.due("six " + round + ": core", x.core(0), m.core(0));
            for (int a = 0; a < 6; a++) {
                CHECKS.due("six " + round + ": A", x.drawing(0, a, 0), m.drawing(0, a, 0));
                CHECKS.due("six " + round + ": Z", x.drawing(0, a, 1), m.drawing(0, a, 1));
                for (int b = 0; b < 6; b++) {
                    if (a != b) {
                        CHECKS.due("six " + round + ": closed", x.closed(0, a, b), m.closed(0, a, b));
                        CHECKS.due("six " + round + ": can", x.can(0, a, b), m.can(0, a, b));
                        CHECKS.due("six " + round + ": drawn", x.drawn(0, a, b), m.drawn(0, a, b));
                    }
                }
            }
        }
    }

    private static int someSet(Random random, int bits) {
        int set = 0;
        while (Integer.bitCount(set) < bits) {
            set |= 1 << random.nextInt(13);
        }
        return set;
    }

    /** Few statements with few relations each: what they let must go round by many paths. */
    private static void closingSpreads() {
        Random random = new Random(23);
        for (int round = 0; round < 3000; round++) {
            SpaceWords x = new SpaceWords();
            int[][] net = Plain.open();
            int told = 4 + random.nextInt(9);
            for (int i = 0; i < told; i++) {
                int a = random.nextInt(6);
                int b = (a + 1 + random.nextInt(5)) % 6;
                int set = someSet(random, 1 + random.nextInt(1 + told / 2));
                x.tell(a, b, 8191, set);
                Plain.narrow(net, a, b, set);
            }
            Plain.close(net);
            for (int a = 0; a < 6; a++) {
                for (int b = 0; b < 6; b++) {
                    if (a != b) {
                        CHECKS.due("spread " + round + ": closed", x.closed(1, a, b), net[a][b]);
                    }
                }
            }
        }
    }

    /** Nets of one to three sets for all pairs: among them many where closing sees too little. */
    private static void hardNets() {
        Random random = new Random(29);
        int unseen = 0;
        int narrower = 0;
        for (int round = 0; round < 4000; round++) {
            SpaceWords x = new SpaceWords();
            int[][] net = Plain.open();
            int[] sets = new int[1 + random.nextInt(2)];
            for (int i = 0; i < sets.length; i++) {
                sets[i] = someSet(random, 2 + random.nextInt(4));
            }
            for (int a = 0; a < 6; a++) {
                for (int b = a + 1; b < 6; b++) {
                    int set = sets[random.nextInt(sets.length)];
                    boolean ahead = random.nextBoolean();
                    x.tell(ahead ? a : b, ahead ? b : a, set, 8191);
                    Plain.narrow(net, ahead ? a : b, ahead ? b : a, set);
                }
            }
            if (x.closed(0, 0, 1) == 0) {
                continue;
            }
            int[][] first = Plain.first(net);
            CHECKS.due("hard " + round + ": canBe", x.canBe(0), first == null ? 0 : 1);
            unseen += first == null ? 1 : 0;
            for (int a = 0; a < 6; a++) {
                for (int b = a + 1; b < 6; b++) {
                    int drawn = first == null ? -9 : Integer.numberOfTrailingZeros(first[a][b]);
                    CHECKS.due("hard " + round + ": drawn", x.drawn(0, a, b), drawn);
                    // All pairs of all nets would take the plain one too long.
                    if (random.nextInt(10) == 0) {
                        int can = first == null ? 0 : Plain.can(net, a, b);
                        CHECKS.due("hard " + round + ": can", x.can(0, a, b), can);
                        narrower += first != null && can != x.closed(0, a, b) ? 1 : 0;
                    }
                }
            }
        }
        System.out.println("hard nets: " + unseen + " can't be though closed, " + narrower + " sets narrower than closed");
        CHECKS.holds("hard nets are hard", unseen >= 20 && narrower >= 50);
    }
}
