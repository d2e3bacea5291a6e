/**
 * The sections 'What it is' and 'Terms' of the document, sentence by sentence: each sentence that
 * names a boundary has a test of its own, with answers written out by hand. The sentence stands
 * above its test.
 */
public final class TermsEdgesTest {
    private static final Checks CHECKS = new Checks();
    private static final int ALL = 8191;
    private static final int MIN = Integer.MIN_VALUE;
    private static final int MAX = Integer.MAX_VALUE;

    /** Stretches q, and the relation of the stretch from 3 to 6 to each of them. */
    private static final int[][] BESIDE_3_6 = {
        {7, 8, 0}, {7, 9, 0}, {6, 7, 1}, {6, 9, 1}, {5, 7, 2}, {4, 7, 2}, {4, 9, 2}, {3, 7, 3}, {3, 9, 3},
        {2, 7, 4}, {0, 9, 4}, {2, 6, 5}, {0, 6, 5}, {3, 6, 6}, {5, 6, 7}, {4, 6, 7}, {4, 5, 8},
        {3, 4, 9}, {3, 5, 9}, {2, 4, 10}, {2, 5, 10}, {0, 5, 10}, {2, 3, 11}, {0, 3, 11}, {1, 2, 12}, {0, 2, 12}
    };

    private static final int[][] NEAR = {
        {1}, {0, 2, 3, 7}, {1, 3, 7}, {1, 2, 4, 6}, {3, 5}, {4, 6, 10, 11}, {3, 5, 7, 9},
        {1, 2, 6, 8}, {7, 9}, {6, 8, 10, 11}, {5, 9, 11}, {5, 9, 10, 12}, {11}
    };

    public static void main(String[] args) {
        mostCallsOfRefusals();
        mostCallsOfChanges();
        stretchIsToAGreaterOne();
        relationsAtTheirEdges();
        relationOfTheOther();
        setsAsBits();
        turnedSets();
        composedSets();
        nearOnes();
        fewestSteps();
        thingsAndWays();
        thirtyStatements();
        toldOrSilent();
        toldSetFromEitherSide();
        closingOfThree();
        oneEmptyAllEmpty();
        sixThingsAlongAWay();
        canSetOfAll();
        leastWithThoseAhead();
        numbersFromNought();
        alikeOnesAlike();
        coreFromTheLast();
        coreAtItsEnds();
        eightWords();
        setsAsTheyAreThen();
        askingAtItsEdges();
        numbersOfBoxes();
        fitsOfThoseDrawn();
        movedToTheDrawing();
        firstRefusalThatFits();
        CHECKS.done("TermsEdgesTest");
    }

    private static void due(String what, int got, int want) {
        CHECKS.due(what, got, want);
    }

    // "An object is used for at most 512 calls after it has been made"
    private static void mostCallsOfRefusals() {
        SpaceWords x = new SpaceWords();
        for (int call = 1; call <= 511; call++) {
            due("call " + call, x.rub(0), -3);
        }
        due("call 512", x.count(13), 511);
        SpaceWords y = new SpaceWords();
        y.tell(0, 1, 1, ALL);
        for (int call = 2; call <= 511; call++) {
            due("call " + call, y.can(0, 0, 1), 1);
        }
        due("call 512", y.can(0, 1, 0), 4096);
    }

    // "An object is used for at most 512 calls after it has been made": each of them a change
    private static void mostCallsOfChanges() {
        SpaceWords x = new SpaceWords();
        x.tell(0, 1, 0, 64);
        for (int call = 2; call <= 511; call++) {
            due("call " + call, x.silent(0, call % 2 == 0), 1);
        }
        due("call 512", x.canBe(0), 0);
        SpaceWords y = new SpaceWords();
        for (int call = 1; call <= 510; call++) {
            due("call " + call, y.box(call % 6, 0, 1 + call % 99, 0, 1), call <= 6 ? 1 : 0);
        }
        // Call 509 drew thing 5 from 0 to 15, call 510 thing 0 from 0 to 16.
        due("call 511", y.read(0, 5, 0), 3);
        due("call 512", y.count(2), 6);
    }

    // "A STRETCH is from a whole number to a greater one (A its first, Z its last)."
    private static void stretchIsToAGreaterOne() {
        SpaceWords x = new SpaceWords();
        due("one greater", x.box(0, 4, 5, 4, 5), 1);
        due("alike along way 0", x.box(1, 4, 4, 4, 5), -4);
        due("alike along way 1", x.box(1, 4, 5, 4, 4), -4);
        due("lesser along way 0", x.box(1, 5, 4, 4, 5), -4);
        due("lesser along way 1", x.box(1, 4, 5, 5, 4), -4);
        for (int thing = 0; thing < 6; thing++) {
            due("drawn to a greater one", x.drawing(0, thing, 0) < x.drawing(0, thing, 1) ? 1 : 0, 1);
        }
    }

    // "RELATIONS of a stretch p to another one q have numbers: 0 p's Z below q's A; 1 p's Z is q's A; .."
    // "(Each two stretches have just one.)"
    private static void relationsAtTheirEdges() {
        int[] ends = {0, 90};
        for (int end : ends) {
            SpaceWords x = new SpaceWords();
            x.box(0, 3 + end, 6 + end, 0, 1);
            x.box(2, 0, 1, 3 + end, 6 + end);
            for (int[] q : BESIDE_3_6) {
                String to = "3 6 to " + q[0] + " " + q[1] + " at " + end;
                x.box(1, q[0] + end, q[1] + end, q[0] + end, q[1] + end);
                due(to, x.read(0, 0, 1), q[2]);
                due(to + " along way 1", x.read(1, 2, 1), q[2]);
            }
        }
    }

    // "and 12 less r is that of q to p, if r is that of p to q"
    private static void relationOfTheOther() {
        SpaceWords x = new SpaceWords();
        x.box(0, 3, 6, 3, 6);
        for (int[] q : BESIDE_3_6) {
            x.box(5, q[0], q[1], q[0], q[1]);
            due(q[0] + " " + q[1] + " to 3 6", x.read(0, 5, 0), 12 - q[2]);
            due(q[0] + " " + q[1] + " to 3 6 along way 1", x.read(1, 5, 0), 12 - q[2]);
        }
        SpaceWords y = new SpaceWords();
        y.tell(0, 1, 2, 256);
        due("drawn", y.drawn(0, 0, 1), 1);
        due("drawn, of the other", y.drawn(0, 1, 0), 11);
        due("drawn", y.drawn(1, 0, 1), 8);
        due("drawn, of the other", y.drawn(1, 1, 0), 4);
    }

    // "SETS of them are told as bits: ALL is 8191; 0 is none."
    private static void setsAsBits() {
        for (int r = 0; r < 13; r++) {
            SpaceWords x = new SpaceWords();
            due("tell", x.tell(0, 1, 1 << r, ALL), 0);
            due("bit " + r + " is relation " + r, x.drawn(0, 0, 1), r);
            due("ALL is each", x.told(1, 0, 1) >> r & 1, 1);
        }
        SpaceWords x = new SpaceWords();
        due("ALL is a set", x.tell(0, 1, ALL, 0), 0);
        due("with ALL it can be", x.canBe(0), 1);
        due("with none it can't", x.canBe(1), 0);
        due("one above ALL", x.tell(0, 1, ALL + 1, 0), -2);
        due("one below none", x.tell(0, 1, 0, -1), -2);
    }

    // "TURNED: of a set: those of q to p."
    private static void turnedSets() {
        SpaceWords x = new SpaceWords();
        due("of none", x.turned(0), 0);
        due("of ALL", x.turned(ALL), ALL);
        due("of the first", x.turned(1), 4096);
        due("of the last", x.turned(4096), 1);
        due("of the middle one", x.turned(64), 64);
        due("of all but the first", x.turned(ALL - 1), 4095);
        due("of 0 to 5", x.turned(63), 8064);
        due("of 0 to 6", x.turned(127), 8128);
        due("of every second", x.turned(0x0AAA), 0x0AAA);
        due("of 2 and 5", x.turned(36), 1024 + 128);
    }

    // "COMPOSED: of sets R and S: all relations that p can have to q if p has one of R to some m and m one of S to q."
    private static void composedSets() {
        SpaceWords x = new SpaceWords();
        due("none and none", x.composed(0, 0), 0);
        due("none and ALL", x.composed(0, ALL), 0);
        due("ALL and none", x.composed(ALL, 0), 0);
        due("ALL and ALL", x.composed(ALL, ALL), ALL);
        for (int r = 0; r < 13; r++) {
            due("alike and " + r, x.composed(64, 1 << r), 1 << r);
            due(r + " and alike", x.composed(1 << r, 64), 1 << r);
            due(r + " and ALL", x.composed(1 << r, ALL), ALL);
            due("ALL and " + r, x.composed(ALL, 1 << r), ALL);
        }
        due("0 and 12", x.composed(1, 4096), ALL);
        due("12 and 0", x.composed(4096, 1), ALL);
        due("4 and 8", x.composed(16, 256), ALL);
        due("8 and 4: they share some", x.composed(256, 16), 2044);
        due("1 and 11: Z alike", x.composed(2, 2048), 224);
        due("11 and 1: A alike", x.composed(2048, 2), 584);
        due("1 and 1", x.composed(2, 2), 1);
        due("1 and 0", x.composed(2, 1), 1);
        due("1 and 2", x.composed(2, 4), 1);
        due("1 and 3", x.composed(2, 8), 2);
        due("1 and 7", x.composed(2, 128), 1);
        due("1 or 3, and 1 or 3", x.composed(10, 10), 1 + 2 + 8);
        due("0 or 12, and 0", x.composed(4097, 1), ALL);
    }

    // "NEAR: two relations are if for some stretches p, q the one holds, and the other one behind one of the
    // four numbers of p and q became 1 more or 1 less (they are stretches still)."
    private static void nearOnes() {
        SpaceWords x = new SpaceWords();
        for (int r = 0; r < 13; r++) {
            int want = 0;
            for (int s : NEAR[r]) {
                want |= 1 << s;
            }
            for (int s = 0; s < 13; s++) {
                due("near(" + r + ", " + s + ")", x.near(r, s), want >> s & 1);
            }
        }
        due("count(11)", x.count(11), 0);
    }

    // "STEPS between relations: the fewest moves from each to a NEAR one."
    private static void fewestSteps() {
        int[] fromTheFirst = {0, 1, 2, 2, 3, 4, 3, 2, 3, 4, 5, 5, 6};
        int[] fromTheMiddle = {3, 2, 2, 1, 2, 1, 0, 1, 2, 1, 2, 2, 3};
        SpaceWords x = new SpaceWords();
        for (int r = 0; r < 13; r++) {
            due("steps(0, " + r + ")", x.steps(0, r), fromTheFirst[r]);
            due("steps(" + r + ", 0)", x.steps(r, 0), fromTheFirst[r]);
            due("steps(12, " + (12 - r) + ")", x.steps(12, 12 - r), fromTheFirst[r]);
            due("steps(6, " + r + ")", x.steps(6, r), fromTheMiddle[r]);
            due("steps(" + r + ", " + r + ")", x.steps(r, r), 0);
            for (int s : NEAR[r]) {
                due("steps to a near one", x.steps(r, s), 1);
            }
        }
    }

    // "THINGS 0 to 5 lie along two ways, 0 and 1: along each they are stretches."
    private static void thingsAndWays() {
        SpaceWords x = new SpaceWords();
        due("the last and the first", x.tell(5, 0, 1, 4096), 0);
        due("along way 0", x.drawn(0, 5, 0), 0);
        due("along way 1", x.drawn(1, 5, 0), 12);
        due("thing 6", x.tell(6, 0, 1, 1), -1);
        due("thing -1", x.tell(0, -1, 1, 1), -1);
        due("way 2", x.drawn(2, 5, 0), -2);
        due("way -1", x.drawn(-1, 5, 0), -2);
        due("what is told along way 0 is of way 0", x.told(1, 5, 0), 4096);
    }

    // "STATEMENTS have numbers from 0 on (30 at most)"
    private static void thirtyStatements() {
        SpaceWords x = new SpaceWords();
        for (int n = 0; n < 29; n++) {
            due("number", x.tell(0, 1, ALL, ALL), n);
        }
        due("29 are not there yet", x.statement(29, 0), -1);
        due("the thirtieth", x.tell(5, 4, 1, 1), 29);
        due("it is there", x.statement(29, 0), 5);
        due("one more", x.tell(5, 4, 1, 1), -6);
        due("number 30", x.statement(30, 0), -1);
        due("count(0)", x.count(0), 30);
    }

    // "They are told, or silent."
    private static void toldOrSilent() {
        SpaceWords x = new SpaceWords();
        x.tell(0, 1, 1, 1);
        due("told at first", x.statement(0, 4), 1);
        due("goes silent", x.silent(0, true), 1);
        due("silent", x.statement(0, 4), 0);
        due("it is there still", x.count(0), 1);
        due("none is told", x.count(1), 0);
        due("its sets stay", x.statement(0, 2), 1);
        due("but let all", x.told(0, 0, 1), ALL);
        due("told anew", x.silent(0, false), 1);
        due("and let what they did", x.told(0, 0, 1), 1);
    }

    // "TOLD SET of a and b along a way: what all STATEMENTS that are told let (from either side)."
    private static void toldSetFromEitherSide() {
        SpaceWords x = new SpaceWords();
        due("nothing told", x.told(0, 4, 5), ALL);
        x.tell(4, 5, 31, ALL);
        x.tell(5, 4, 7936 - 4096, ALL);
        // 31 is 0 .. 4, and 8 .. 11 of 5 to 4 is 1 .. 4 of 4 to 5.
        due("4 to 5", x.told(0, 4, 5), 30);
        due("5 to 4", x.told(0, 5, 4), 3840);
        due("the other way", x.told(1, 4, 5), ALL);
        x.tell(5, 4, 1, ALL);
        due("nothing is left", x.told(0, 4, 5), 0);
        due("nor turned", x.told(0, 5, 4), 0);
        due("other pairs have what they had", x.told(0, 0, 1), ALL);
    }

    // "CLOSING along a way: the greatest sets, in TOLD SETS, so that for all three THINGS a, m, b: the set of a
    // and b is within the COMPOSED one of a, m and m, b (and turned ones go together)."
    private static void closingOfThree() {
        SpaceWords x = new SpaceWords();
        x.tell(5, 4, 1, 16);
        due("two alone are as told", x.closed(0, 5, 4), 1);
        due("two others are free", x.closed(0, 5, 3), ALL);
        x.tell(4, 3, 2, 256);
        due("three", x.closed(0, 5, 3), 1);
        due("three turned", x.closed(0, 3, 5), 4096);
        due("three of which nothing follows", x.closed(1, 5, 3), ALL);
        x.tell(5, 3, 8190, ALL - 64);
        due("in the told set", x.closed(1, 5, 3), ALL - 64);
        due("the told set stays", x.told(0, 5, 3), 8190);
        due("but closing leaves none", x.closed(0, 5, 3), 0);
        // A chain of all six: the first to the last.
        SpaceWords y = new SpaceWords();
        for (int n = 0; n < 5; n++) {
            y.tell(n + 1, n, 4096, 2048);
        }
        due("0 to 5 along way 0", y.closed(0, 0, 5), 1);
        due("0 to 5 along way 1", y.closed(1, 0, 5), 1);
        due("4 to 5 along way 1", y.closed(1, 4, 5), 2);
    }

    // "If one is empty all are."
    private static void oneEmptyAllEmpty() {
        SpaceWords x = new SpaceWords();
        x.tell(0, 1, 1, ALL);
        x.tell(1, 2, 1, ALL);
        due("not yet", x.closed(0, 4, 5), ALL);
        x.tell(2, 0, 1, ALL);
        for (int a = 0; a < 6; a++) {
            for (int b = 0; b < 6; b++) {
                if (a != b) {
                    due("all are, by a path", x.closed(0, a, b), 0);
                    due("none along the other way", x.closed(1, a, b), ALL);
                }
            }
        }
        due("the told ones aren't", x.told(0, 0, 1), 1);
        x.silent(2, true);
        due("silent: no longer", x.closed(0, 4, 5), ALL);
        due("silent: no longer", x.closed(0, 0, 2), 1);
        x.tell(4, 5, 0, ALL);
        due("all are, by one told", x.closed(0, 0, 1), 0);
    }

    // "IT CAN BE along a way: there are stretches for all six THINGS so that all that is told holds."
    private static void sixThingsAlongAWay() {
        SpaceWords x = new SpaceWords();
        due("nothing told", x.canBe(0), 1);
        for (int n = 0; n < 5; n++) {
            x.tell(n, n + 1, 2, 64);
        }
        due("a chain of six", x.canBe(0), 1);
        due("its last number", x.drawing(0, 5, 1), 6);
        x.tell(5, 0, 2, 64);
        due("a ring of six", x.canBe(0), 0);
        due("a ring of alike ones", x.canBe(1), 1);
        // 2 or 10 is a stair of six; 1 or 11 gives a stretch two neighbours at most.
        SpaceWords y = new SpaceWords();
        for (int a = 0; a < 6; a++) {
            for (int b = a + 1; b < 6; b++) {
                y.tell(a, b, 1028, 2 + 2048);
            }
        }
        due("2 or 10 for all pairs", y.canBe(0), 1);
        due("1 or 11 for all pairs", y.canBe(1), 0);
    }

    // "CAN SET of a and b: relations that a has to b in some such stretches."
    private static void canSetOfAll() {
        SpaceWords x = new SpaceWords();
        due("nothing told", x.can(0, 0, 5), ALL);
        // Four things: closing leaves 0 to 1 more than can be.
        x.tell(0, 1, 2 + 2048, ALL);
        x.tell(0, 2, 2 + 2048, ALL);
        x.tell(1, 2, 1 + 4096, ALL);
        due("either side", x.can(0, 0, 1), 2 + 2048);
        due("either side", x.can(0, 1, 2), 1 + 4096);
        x.tell(0, 3, 2 + 2048, ALL);
        x.tell(1, 3, 1 + 4096, ALL);
        x.tell(2, 3, 1 + 4096, ALL);
        // 0 has two sides, and three things can't each have one of their own.
        due("none of three", x.can(0, 0, 1), 0);
        due("none of the free ones", x.can(0, 4, 5), 0);
        due("the other way can be", x.can(1, 0, 1), ALL);
    }

    // "FIRST DRAWING along a way (if it can be): by pairs of THINGS (0 1, 0 2, .. 0 5, 1 2, .. 4 5) each gets the
    // least relation with which it can be, with those of the pairs ahead"
    private static void leastWithThoseAhead() {
        SpaceWords x = new SpaceWords();
        x.tell(0, 1, 2 + 2048, ALL);
        x.tell(0, 2, 2 + 2048, ALL);
        x.tell(2, 1, 1 + 4096, ALL);
        due("0 1 gets the least", x.drawn(0, 0, 1), 1);
        due("0 2 gets what is left", x.drawn(0, 0, 2), 11);
        due("1 2 follows", x.drawn(0, 1, 2), 12);
        due("0 3 gets the least", x.drawn(0, 0, 3), 0);
        due("1 3 gets the least", x.drawn(0, 1, 3), 0);
        due("4 5 gets the least", x.drawn(0, 4, 5), 0);
        // The greatest relation of all, where nothing less can be.
        SpaceWords y = new SpaceWords();
        for (int n = 0; n < 5; n++) {
            y.tell(n, n + 1, 4096, 4096 + 2048);
        }
        due("4 5 gets the last", y.drawn(0, 4, 5), 12);
        due("0 5 follows", y.drawn(0, 0, 5), 12);
        due("0 1 gets 11", y.drawn(1, 0, 1), 11);
        due("the first thing lies last", y.drawing(0, 0, 1), 11);
        due("ends that are alike", y.drawing(1, 0, 1), 6);
    }

    // "numbers: all A and Z of the THINGS, the least is 0, the next greater one 1, and so on"
    private static void numbersFromNought() {
        SpaceWords x = new SpaceWords();
        for (int thing = 0; thing < 6; thing++) {
            due("A", x.drawing(0, thing, 0), 2 * thing);
            due("Z, the greatest is 11", x.drawing(0, thing, 1), 2 * thing + 1);
        }
        for (int n = 0; n < 5; n++) {
            x.tell(n, n + 1, ALL, 16);
        }
        for (int thing = 0; thing < 6; thing++) {
            due("A within one another", x.drawing(1, thing, 0), 5 - thing);
            due("Z within one another", x.drawing(1, thing, 1), 6 + thing);
        }
    }

    // "(alike ones alike)"
    private static void alikeOnesAlike() {
        SpaceWords x = new SpaceWords();
        for (int n = 0; n < 5; n++) {
            x.tell(n, n + 1, 2, 64);
        }
        for (int thing = 0; thing < 6; thing++) {
            due("Z and the next A are one number", x.drawing(0, thing, 0), thing);
            due("Z and the next A are one number", x.drawing(0, thing, 1), thing + 1);
            due("all alike: A", x.drawing(1, thing, 0), 0);
            due("all alike: Z", x.drawing(1, thing, 1), 1);
        }
        SpaceWords y = new SpaceWords();
        y.tell(4, 5, 8, 32);
        due("A alike", y.drawing(0, 4, 0), y.drawing(0, 5, 0));
        due("Z next", y.drawing(0, 4, 1) + 1, y.drawing(0, 5, 1));
        due("Z alike", y.drawing(1, 4, 1), y.drawing(1, 5, 1));
    }

    // "CORE along a way (if it can't be): from the last STATEMENT that is told on to the first: each is left out
    // if what is left can't be without it either; those that stay, as bits."
    private static void coreFromTheLast() {
        SpaceWords x = new SpaceWords();
        x.tell(0, 1, 1, 1);
        x.tell(0, 1, 2, 2);
        x.tell(0, 1, 4, ALL);
        due("three that quarrel two by two", x.core(0), 3);
        x.silent(1, true);
        due("the silent one aside", x.core(0), 5);
        due("the other way can be then", x.core(1), 0);
        x.silent(0, true);
        due("it can be", x.core(0), 0);
        x.tell(2, 3, 0, 0);
        x.tell(4, 5, 0, 0);
        due("the first empty one", x.core(0), 8);
        due("along way 1 too", x.core(1), 8);
        x.silent(3, true);
        due("the last empty one", x.core(0), 16);
    }

    // "those that stay, as bits": the first bit is 0, the last is 29
    private static void coreAtItsEnds() {
        SpaceWords x = new SpaceWords();
        x.tell(0, 1, 1, 0);
        for (int n = 1; n < 29; n++) {
            x.tell(2, 3, 1, ALL);
        }
        due("the thirtieth", x.tell(1, 0, 1, 0), 29);
        due("the first and the last", x.core(0), 1 << 29 | 1);
        due("the first alone", x.core(1), 1);
        x.silent(0, true);
        due("the last alone", x.core(1), 1 << 29);
        due("the last can be without the first", x.core(0), 0);
        // All thirty: five times a ring of six makes no core of its own, one ring does.
        SpaceWords y = new SpaceWords();
        for (int n = 0; n < 30; n++) {
            y.tell(n % 6, (n + 1) % 6, 1, ALL);
        }
        due("the first ring", y.core(0), 63);
        y.silent(2, true);
        due("with the next of the third", y.core(0), 63 - 4 + 256);
    }

    // "WORDS 0 .. 7: each has a set for each way (ALL at first)."
    private static void eightWords() {
        SpaceWords x = new SpaceWords();
        due("word -1", x.word(-1, 0, 1), -1);
        due("word 8", x.word(8, 0, 1), -1);
        for (int word = 0; word < 8; word++) {
            due("ALL at first", x.word(word, 0, word), ALL);
            due("ALL along way 1", x.word(word, 1, word + 8), ALL);
        }
        for (int word = 0; word < 8; word++) {
            due("each its own", x.word(word, 0, 0), word);
            due("each way its own", x.word(word, 1, 0), word + 8);
        }
    }

    // "SAYING a WORD of a and b is a STATEMENT with its sets as they are then."
    private static void setsAsTheyAreThen() {
        SpaceWords x = new SpaceWords();
        due("a word as it is at first", x.say(7, 4, 5), 0);
        x.word(7, 0, 0);
        x.word(7, 1, 1);
        due("then", x.statement(0, 2), ALL);
        due("it can be as it was then", x.canBe(0), 1);
        due("said anew", x.say(7, 4, 5), 1);
        x.word(7, 0, ALL);
        due("none, as it was then", x.statement(1, 2), 0);
        due("its other set", x.statement(1, 3), 1);
        due("it can't be as it was then", x.canBe(0), 0);
        due("told along way 1", x.told(1, 5, 4), 4096);
    }

    // "ASKING a WORD of a and b, by what is told: 1 it follows (their CAN SETS are within the WORD's, along both
    // ways), 0 it can't be (along some way the CAN SET has none of the WORD's), 2 it may be or not; -9 what is
    // told can't be along some way."
    private static void askingAtItsEdges() {
        SpaceWords x = new SpaceWords();
        x.tell(0, 1, 6, 6);
        x.word(0, 0, 6);
        x.word(0, 1, 6);
        due("just within", x.ask(0, 0, 1), 1);
        due("not of the other side", x.ask(0, 1, 0), 0);
        x.word(0, 1, 4);
        due("one missing along way 1", x.ask(0, 0, 1), 2);
        x.word(0, 1, 8191 - 6);
        due("none along way 1", x.ask(0, 0, 1), 0);
        x.word(0, 1, 6);
        x.word(0, 0, 2);
        due("one missing along way 0", x.ask(0, 0, 1), 2);
        x.word(0, 0, 8191 - 6);
        due("none along way 0", x.ask(0, 0, 1), 0);
        x.word(0, 1, 4);
        due("none along way 0, some along way 1", x.ask(0, 0, 1), 0);
        x.word(1, 0, 0);
        due("a word of none", x.ask(1, 4, 5), 0);
        due("a word of ALL", x.ask(2, 4, 5), 1);
        x.tell(2, 3, ALL, 0);
        due("it can't be along way 1", x.ask(2, 4, 5), -9);
        due("nor with a word of none", x.ask(1, 4, 5), -9);
        x.silent(1, true);
        x.tell(2, 3, 0, ALL);
        due("it can't be along way 0", x.ask(2, 4, 5), -9);
        x.silent(2, true);
        due("what is silent is not told", x.ask(2, 4, 5), 1);
    }

    // "BOXES: each THING may be drawn: stretches along both ways (numbers 0 .. 99)"
    private static void numbersOfBoxes() {
        SpaceWords x = new SpaceWords();
        due("least and greatest", x.box(0, 0, 99, 0, 99), 1);
        due("the last one", x.box(5, 98, 99, 98, 99), 1);
        due("the first one", x.box(1, 0, 1, 0, 1), 1);
        due("a is -1", x.box(2, -1, 1, 0, 1), -4);
        due("b is -1", x.box(2, 0, 1, -1, 1), -4);
        due("z is 100", x.box(2, 99, 100, 0, 1), -6);
        due("y is 100", x.box(2, 0, 1, 99, 100), -6);
        due("a and z are the greatest ints", x.box(2, MAX - 1, MAX, 0, 1), -6);
        due("a and z are the least ints", x.box(2, MIN, MIN + 1, 0, 1), -4);
        due("least to greatest", x.box(2, MIN, MAX, 0, 1), -4);
        due("count(2)", x.count(2), 3);
        due("5 to 0", x.read(0, 5, 0), 5);
        due("1 to 0", x.read(1, 1, 0), 3);
        due("1 to 5", x.read(1, 1, 5), 0);
    }

    // "FITS: how many STATEMENTS that are told don't hold of BOXES (those of THINGS that aren't drawn aside)."
    private static void fitsOfThoseDrawn() {
        SpaceWords x = new SpaceWords();
        due("no statements", x.fits(), 0);
        for (int n = 0; n < 30; n++) {
            x.tell(n % 2, 1 - n % 2, n < 20 ? 0 : ALL, n < 10 ? ALL : 0);
        }
        due("nothing is drawn", x.fits(), 0);
        x.box(0, 0, 1, 0, 1);
        due("b isn't drawn", x.fits(), 0);
        x.box(1, 0, 1, 0, 1);
        due("all thirty", x.fits(), 30);
        x.rub(0);
        due("a isn't drawn", x.fits(), 0);
        x.box(0, 0, 1, 0, 1);
        x.silent(0, true);
        due("one is silent", x.fits(), 29);
        x.silent(29, true);
        due("the last too", x.fits(), 28);
        SpaceWords y = new SpaceWords();
        y.box(0, 0, 1, 0, 1);
        y.box(1, 0, 1, 0, 1);
        y.tell(0, 1, 64, 64);
        due("it holds", y.fits(), 0);
        y.tell(0, 1, ALL - 64, 64);
        due("not along way 0", y.fits(), 1);
        y.tell(1, 0, 64, ALL - 64);
        due("not along way 1", y.fits(), 2);
        y.tell(1, 0, ALL - 64, ALL - 64);
        due("along none: counted once", y.fits(), 3);
    }

    // "MOVED: STEPS from the relation of two BOXES along a way to that of theirs in the FIRST DRAWING."
    private static void movedToTheDrawing() {
        SpaceWords x = new SpaceWords();
        x.box(4, 0, 1, 98, 99);
        x.box(5, 98, 99, 0, 1);
        due("as drawn first", x.moved(0, 4, 5), 0);
        due("as drawn first, turned", x.moved(0, 5, 4), 0);
        due("as far as can be", x.moved(1, 4, 5), 6);
        due("as far as can be, turned", x.moved(1, 5, 4), 6);
        x.tell(4, 5, 64, 64);
        due("halfway", x.moved(0, 4, 5), 3);
        due("halfway", x.moved(1, 4, 5), 3);
        x.box(4, 0, 98, 0, 2);
        due("near", x.moved(0, 4, 5), 2);
        due("near", x.moved(1, 4, 5), 1);
    }

    // "REFUSALS (the call answers the number, the first that fits in the order in which it tells them; nothing
    // changes but how many there were)": every call with every fault is in SweepTest
    private static void firstRefusalThatFits() {
        SpaceWords x = new SpaceWords();
        for (int n = 0; n < 30; n++) {
            x.tell(0, 1, ALL, ALL);
        }
        due("-1 ahead of -2 and -6", x.tell(2, 2, -1, 8192), -1);
        due("-2 ahead of -6", x.tell(2, 3, -1, 8192), -2);
        due("-6", x.tell(2, 3, 1, 1), -6);
        due("-1 ahead of -6", x.say(0, 3, 3), -1);
        due("-1 ahead of -2", x.statement(30, 5), -1);
        due("-1 ahead of -2 and -3", x.read(2, 3, 3), -1);
        due("-2 ahead of -3", x.read(2, 3, 4), -2);
        due("-3", x.read(1, 3, 4), -3);
        due("-1 ahead of -3", x.holds(8, 3, 4), -1);
        due("-1 ahead of -4 and -6", x.box(6, -1, 100, 0, 0), -1);
        due("-4 ahead of -6", x.box(3, 0, 100, -1, 1), -4);
        int[] counts = {6, 2, 1, 1, 0, 1};
        for (int i = 0; i < 6; i++) {
            due("each counted once: " + (11 + i), x.count(11 + i), counts[i]);
        }
        due("nothing told", x.count(0), 30);
        due("nothing drawn", x.count(2), 0);
    }
}
