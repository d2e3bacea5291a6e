/**
 * Promises 1 to 25, sentence by sentence: each sentence that names a boundary has a test of its own,
 * with answers written out by hand. The sentences stand above their tests.
 */
public final class PromisesEdgesTest {
    private static final Checks CHECKS = new Checks();
    private static final int ALL = 8191;
    private static final int[] NO_THINGS = {Integer.MIN_VALUE, -1, 6, Integer.MAX_VALUE};
    private static final int[] NO_WAYS = {Integer.MIN_VALUE, -1, 2, Integer.MAX_VALUE};
    private static final int[] NO_WORDS = {Integer.MIN_VALUE, -1, 8, Integer.MAX_VALUE};
    private static final int[] NO_SETS = {Integer.MIN_VALUE, -1, 8192, Integer.MAX_VALUE};
    private static final int[] NO_RELATIONS = {Integer.MIN_VALUE, -1, 13, Integer.MAX_VALUE};

    public static void main(String[] args) {
        newObject();
        turned();
        composed();
        near();
        steps();
        tell();
        tellRefuses();
        silent();
        statement();
        told();
        closed();
        canBe();
        can();
        drawing();
        drawn();
        core();
        word();
        say();
        ask();
        box();
        boxRefuses();
        rub();
        read();
        holds();
        fits();
        moved();
        count();
        CHECKS.done("PromisesEdgesTest");
    }

    private static void due(String what, int got, int want) {
        CHECKS.due(what, got, want);
    }

    /** How many refusals of each kind there were, as -1, -2, -3, -4, -5, -6. */
    private static void counted(String call, SpaceWords x, int... want) {
        for (int i = 0; i < 6; i++) {
            CHECKS.due(call + ": count(" + (11 + i) + ")", x.count(11 + i), want[i]);
        }
    }

    // Promise 1. "Nothing is told or drawn."
    private static void newObject() {
        SpaceWords x = new SpaceWords();
        due("statements", x.count(0), 0);
        due("told", x.count(1), 0);
        due("boxes", x.count(2), 0);
        counted("new", x, 0, 0, 0, 0, 0, 0);
        for (int n = 0; n < 30; n++) {
            due("no statement", x.statement(n, 4), -1);
        }
        for (int thing = 0; thing < 6; thing++) {
            due("not drawn", x.rub(thing), -3);
        }
        for (int a = 0; a < 6; a++) {
            for (int b = a + 1; b < 6; b++) {
                due("told", x.told(0, a, b), ALL);
                due("told", x.told(1, a, b), ALL);
                due("read", x.read(0, a, b), -3);
                due("holds", x.holds(0, a, b), -3);
                due("moved", x.moved(1, a, b), -3);
            }
        }
        due("fits", x.fits(), 0);
    }

    // Promise 2. "TURNED set. -2."
    private static void turned() {
        SpaceWords x = new SpaceWords();
        due("none", x.turned(0), 0);
        due("ALL", x.turned(8191), 8191);
        due("one above ALL", x.turned(8192), -2);
        due("one below none", x.turned(-1), -2);
        for (int no : NO_SETS) {
            due("turned(" + no + ")", x.turned(no), -2);
        }
        counted("turned", x, 0, 6, 0, 0, 0, 0);
    }

    // Promise 3. "COMPOSED sets. -2."
    private static void composed() {
        SpaceWords x = new SpaceWords();
        due("none", x.composed(0, 0), 0);
        due("ALL", x.composed(8191, 8191), 8191);
        for (int no : NO_SETS) {
            due("composed(" + no + ", 1)", x.composed(no, 1), -2);
            due("composed(1, " + no + ")", x.composed(1, no), -2);
            due("composed(" + no + ", 0)", x.composed(no, 0), -2);
            due("composed(0, " + no + ")", x.composed(0, no), -2);
            due("both wrong: one refusal", x.composed(no, no), -2);
        }
        counted("composed", x, 0, 20, 0, 0, 0, 0);
    }

    // Promise 4. "Whether two relations are NEAR: 1, 0 (one to itself: 0). -1."
    private static void near() {
        SpaceWords x = new SpaceWords();
        for (int r = 0; r < 13; r++) {
            due("to itself", x.near(r, r), 0);
        }
        due("near", x.near(12, 11), 1);
        due("not near", x.near(12, 10), 0);
        due("the ends of the row", x.near(0, 12), 0);
        due("a jump by a stretch of 1", x.near(1, 7), 1);
        due("and by the other", x.near(11, 5), 1);
        for (int no : NO_RELATIONS) {
            due("near(" + no + ", 0)", x.near(no, 0), -1);
            due("near(12, " + no + ")", x.near(12, no), -1);
            due("to itself, but no relation", x.near(no, no), -1);
        }
        counted("near", x, 12, 0, 0, 0, 0, 0);
    }

    // Promise 5. "STEPS. -1."
    private static void steps() {
        SpaceWords x = new SpaceWords();
        for (int r = 0; r < 13; r++) {
            due("to itself", x.steps(r, r), 0);
        }
        due("the most", x.steps(0, 12), 6);
        due("and back", x.steps(12, 0), 6);
        due("to a near one", x.steps(11, 12), 1);
        for (int no : NO_RELATIONS) {
            due("steps(" + no + ", 0)", x.steps(no, 0), -1);
            due("steps(12, " + no + ")", x.steps(12, no), -1);
            due("to itself, but no relation", x.steps(no, no), -1);
        }
        counted("steps", x, 12, 0, 0, 0, 0, 0);
    }

    // Promise 6. "A STATEMENT, told: its number. .. -6 there are 30."
    private static void tell() {
        SpaceWords x = new SpaceWords();
        due("the first", x.tell(0, 5, 0, 8191), 0);
        due("it is told", x.statement(0, 4), 1);
        due("the same again is another", x.tell(0, 5, 0, 8191), 1);
        due("a refused one has no number", x.tell(0, 5, 8192, 0), -2);
        due("the next", x.tell(5, 0, 8191, 0), 2);
        for (int n = 3; n < 30; n++) {
            due("number " + n, x.tell(n % 5, 5, 1, 1), n);
        }
        due("there are 30", x.tell(0, 5, 1, 1), -6);
        x.silent(29, true);
        due("there are 30, one of them silent", x.tell(0, 5, 1, 1), -6);
        due("none was told", x.count(0), 30);
        due("the last is as it was", x.statement(29, 0), 4);
        counted("tell", x, 0, 1, 0, 0, 0, 2);
    }

    // Promise 6. "-1; -2; -6"
    private static void tellRefuses() {
        SpaceWords x = new SpaceWords();
        for (int no : NO_THINGS) {
            due("tell(" + no + ", 0)", x.tell(no, 0, 1, 1), -1);
            due("tell(0, " + no + ")", x.tell(0, no, 1, 1), -1);
            due("no thing with itself", x.tell(no, no, 1, 1), -1);
        }
        for (int thing = 0; thing < 6; thing++) {
            due("a thing with itself", x.tell(thing, thing, 64, 64), -1);
        }
        for (int no : NO_SETS) {
            due("one " + no, x.tell(0, 1, no, 1), -2);
            due("other " + no, x.tell(0, 1, 1, no), -2);
            due("both " + no, x.tell(0, 1, no, no), -2);
            due("-1 goes ahead", x.tell(1, 1, no, no), -1);
        }
        due("none was told", x.count(0), 0);
        counted("tell", x, 22, 12, 0, 0, 0, 0);
    }

    // Promise 7. "A STATEMENT is silent, or told: 1; 0 if it was so. -1."
    private static void silent() {
        SpaceWords x = new SpaceWords();
        due("none yet", x.silent(0, true), -1);
        x.tell(0, 1, 0, 0);
        x.tell(0, 1, 0, 0);
        due("told, and was so", x.silent(0, false), 0);
        due("silent", x.silent(0, true), 1);
        due("silent, and was so", x.silent(0, true), 0);
        due("the other one is told", x.statement(1, 4), 1);
        due("told", x.silent(0, false), 1);
        due("told, and was so", x.silent(0, false), 0);
        due("the last", x.silent(1, true), 1);
        due("one behind the last", x.silent(2, true), -1);
        due("one ahead of the first", x.silent(-1, false), -1);
        due("number 30", x.silent(30, false), -1);
        due("the least int", x.silent(Integer.MIN_VALUE, true), -1);
        due("the greatest int", x.silent(Integer.MAX_VALUE, true), -1);
        due("told are", x.count(1), 1);
        counted("silent", x, 6, 0, 0, 0, 0, 0);
    }

    // Promise 8. "Of a STATEMENT: 0 a, 1 b, 2, 3 its sets, 4 1 if it is told. -1; -2."
    private static void statement() {
        SpaceWords x = new SpaceWords();
        due("none yet", x.statement(0, 0), -1);
        x.tell(5, 0, 0, 8191);
        due("a", x.statement(0, 0), 5);
        due("b", x.statement(0, 1), 0);
        due("the set of way 0", x.statement(0, 2), 0);
        due("the set of way 1", x.statement(0, 3), 8191);
        due("told", x.statement(0, 4), 1);
        due("what 5", x.statement(0, 5), -2);
        due("what -1", x.statement(0, -1), -2);
        due("the least int", x.statement(0, Integer.MIN_VALUE), -2);
        due("the greatest int", x.statement(0, Integer.MAX_VALUE), -2);
        due("one behind the last", x.statement(1, 0), -1);
        due("one ahead of the first", x.statement(-1, 0), -1);
        due("-1 goes ahead", x.statement(1, 5), -1);
        x.silent(0, true);
        due("silent", x.statement(0, 4), 0);
        due("a of a silent one", x.statement(0, 0), 5);
        counted("statement", x, 4, 4, 0, 0, 0, 0);
    }

    /** The refusals "-1; -2" of a call along a way of two things. */
    private static void alongRefuses(String name) {
        SpaceWords x = new SpaceWords();
        x.box(0, 0, 1, 0, 1);
        x.box(1, 0, 1, 0, 1);
        for (int no : NO_THINGS) {
            due(name + "(0, " + no + ", 0)", new Call(name, 0, no, 0).on(x), -1);
            due(name + "(1, 0, " + no + ")", new Call(name, 1, 0, no).on(x), -1);
            due(name + "(2, 0, " + no + "): -1 goes ahead", new Call(name, 2, 0, no).on(x), -1);
        }
        for (int thing = 0; thing < 6; thing++) {
            due(name + " with itself", new Call(name, 0, thing, thing).on(x), -1);
        }
        for (int no : NO_WAYS) {
            due(name + "(" + no + ", 0, 1)", new Call(name, no, 0, 1).on(x), -2);
            due(name + "(" + no + ", 0, 0): -1 goes ahead", new Call(name, no, 0, 0).on(x), -1);
        }
        counted(name, x, 22, 4, 0, 0, 0, 0);
        SpaceWords y = new SpaceWords();
        y.tell(2, 3, 0, 0);
        due(name + " where it can't be: -1", new Call(name, 0, 6, 0).on(y), -1);
        due(name + " where it can't be: -2", new Call(name, 2, 0, 1).on(y), -2);
        counted(name + " where it can't be", y, 1, 1, 0, 0, 0, 0);
    }

    // Promise 9. "TOLD SET. -1; -2."
    private static void told() {
        alongRefuses("told");
        SpaceWords x = new SpaceWords();
        due("nothing told", x.told(0, 5, 0), 8191);
        x.tell(5, 0, 8191, 0);
        due("ALL told", x.told(0, 5, 0), 8191);
        due("none told", x.told(1, 5, 0), 0);
        due("none told, turned", x.told(1, 0, 5), 0);
        due("of no others", x.told(1, 5, 1), 8191);
    }

    // Promise 10. "The set of a and b by CLOSING. -1; -2."
    private static void closed() {
        alongRefuses("closed");
        SpaceWords x = new SpaceWords();
        due("nothing told", x.closed(1, 5, 0), 8191);
        x.tell(5, 4, 8191, 2);
        x.tell(4, 0, 8191, 8);
        due("by a path", x.closed(1, 5, 0), 2);
        x.tell(0, 5, 8191, 2);
        due("empty", x.closed(1, 5, 0), 0);
        due("then all are", x.closed(1, 1, 2), 0);
        due("but along the other way", x.closed(0, 1, 2), 8191);
    }

    // Promise 11. "Whether IT CAN BE: 1, 0. -2."
    private static void canBe() {
        SpaceWords x = new SpaceWords();
        due("nothing told", x.canBe(0), 1);
        due("nothing told", x.canBe(1), 1);
        x.tell(0, 1, 0, 8191);
        due("none told", x.canBe(0), 0);
        due("ALL told", x.canBe(1), 1);
        x.silent(0, true);
        due("it is silent", x.canBe(0), 1);
        for (int no : NO_WAYS) {
            due("canBe(" + no + ")", x.canBe(no), -2);
        }
        counted("canBe", x, 0, 4, 0, 0, 0, 0);
    }

    // Promise 12. "CAN SET (0: it can't be). -1; -2."
    private static void can() {
        alongRefuses("can");
        SpaceWords x = new SpaceWords();
        due("nothing told", x.can(0, 5, 0), 8191);
        x.tell(0, 5, 1, 8191);
        due("as told", x.can(0, 5, 0), 4096);
        x.tell(5, 0, 1, 8191);
        for (int a = 0; a < 6; a++) {
            for (int b = 0; b < 6; b++) {
                if (a != b) {
                    due("0: it can't be", x.can(0, a, b), 0);
                    due("along the other way it can", x.can(1, a, b), 8191);
                }
            }
        }
    }

    // Promise 13. "A (what 0), Z (1) of a THING in the FIRST DRAWING; -9 it can't be. -1; -2."
    private static void drawing() {
        SpaceWords x = new SpaceWords();
        due("A of the first", x.drawing(0, 0, 0), 0);
        due("Z of the first", x.drawing(0, 0, 1), 1);
        due("A of the last", x.drawing(1, 5, 0), 10);
        due("Z of the last", x.drawing(1, 5, 1), 11);
        x.tell(0, 1, 0, 8191);
        for (int no : NO_THINGS) {
            due("drawing(0, " + no + ", 0)", x.drawing(0, no, 0), -1);
            due("drawing(1, " + no + ", 1)", x.drawing(1, no, 1), -1);
            due("-1 goes ahead", x.drawing(2, no, 2), -1);
        }
        for (int no : NO_WAYS) {
            due("drawing(" + no + ", 0, 0)", x.drawing(no, 0, 0), -2);
            due("drawing(0, 0, " + no + "), where it can't be", x.drawing(0, 0, no), -2);
            due("drawing(1, 0, " + no + "), where it can", x.drawing(1, 0, no), -2);
        }
        for (int thing = 0; thing < 6; thing++) {
            due("-9: A", x.drawing(0, thing, 0), -9);
            due("-9: Z", x.drawing(0, thing, 1), -9);
            due("along the other way", x.drawing(1, thing, 0), 2 * thing);
        }
        counted("drawing: -9 is no refusal", x, 12, 12, 0, 0, 0, 0);
    }

    // Promise 14. "The relation of a to b in it; -9 it can't be. -1; -2."
    private static void drawn() {
        alongRefuses("drawn");
        SpaceWords x = new SpaceWords();
        due("the least", x.drawn(0, 0, 5), 0);
        due("turned", x.drawn(0, 5, 0), 12);
        x.tell(0, 5, 4096, 0);
        due("the greatest", x.drawn(0, 0, 5), 12);
        due("turned", x.drawn(0, 5, 0), 0);
        due("-9", x.drawn(1, 0, 5), -9);
        due("-9 of others", x.drawn(1, 2, 1), -9);
        x.silent(0, true);
        due("silent", x.drawn(1, 0, 5), 0);
        counted("drawn: -9 is no refusal", x, 0, 0, 0, 0, 0, 0);
    }

    // Promise 15. "CORE; 0 if it can be. -2."
    private static void core() {
        SpaceWords x = new SpaceWords();
        due("nothing told", x.core(0), 0);
        x.tell(0, 1, 1, 0);
        due("it can be", x.core(0), 0);
        due("it can't", x.core(1), 1);
        x.tell(0, 1, 4096, 8191);
        due("both", x.core(0), 3);
        due("the first alone", x.core(1), 1);
        for (int no : NO_WAYS) {
            due("core(" + no + ")", x.core(no), -2);
        }
        counted("core", x, 0, 4, 0, 0, 0, 0);
    }

    // Promise 16. "The set of a WORD for a way: what it was. -1; -2."
    private static void word() {
        SpaceWords x = new SpaceWords();
        due("at first", x.word(0, 0, 0), 8191);
        due("none", x.word(0, 0, 8191), 0);
        due("ALL", x.word(0, 0, 8191), 8191);
        due("the last word, the last way", x.word(7, 1, 5), 8191);
        due("its other way", x.word(7, 0, 6), 8191);
        for (int no : NO_WORDS) {
            due("word(" + no + ", 0, 1)", x.word(no, 0, 1), -1);
            due("-1 goes ahead", x.word(no, 2, 8192), -1);
        }
        for (int no : NO_WAYS) {
            due("word(7, " + no + ", 1)", x.word(7, no, 1), -2);
        }
        for (int no : NO_SETS) {
            due("word(7, 0, " + no + ")", x.word(7, 0, no), -2);
            due("both: one refusal", x.word(7, 2, no), -2);
        }
        due("unchanged", x.word(7, 0, 1), 6);
        due("unchanged", x.word(7, 1, 1), 5);
        counted("word", x, 8, 12, 0, 0, 0, 0);
    }

    // Promise 17. "SAYING: the STATEMENT's number. -1; -6."
    private static void say() {
        SpaceWords x = new SpaceWords();
        x.word(0, 0, 0);
        due("the first", x.say(0, 0, 5), 0);
        due("told ones and said ones go on", x.tell(0, 5, 1, 1), 1);
        due("the last word", x.say(7, 5, 0), 2);
        for (int no : NO_WORDS) {
            due("say(" + no + ", 0, 1)", x.say(no, 0, 1), -1);
        }
        for (int no : NO_THINGS) {
            due("say(0, " + no + ", 0)", x.say(0, no, 0), -1);
            due("say(0, 0, " + no + ")", x.say(0, 0, no), -1);
        }
        due("with itself", x.say(0, 5, 5), -1);
        for (int n = 3; n < 30; n++) {
            due("number " + n, x.say(1, 2, 3), n);
        }
        due("there are 30", x.say(1, 2, 3), -6);
        due("-1 goes ahead", x.say(8, 2, 3), -1);
        due("-1 goes ahead", x.say(1, 2, 2), -1);
        due("none was told", x.count(0), 30);
        counted("say", x, 15, 0, 0, 0, 0, 1);
    }

    // Promise 18. "ASKING. -1."
    private static void ask() {
        SpaceWords x = new SpaceWords();
        x.word(7, 0, 1);
        due("it follows", x.ask(0, 5, 0), 1);
        due("it may be", x.ask(7, 5, 0), 2);
        x.word(7, 0, 0);
        due("it can't be", x.ask(7, 5, 0), 0);
        x.tell(1, 2, 0, 0);
        due("nothing can", x.ask(0, 5, 0), -9);
        for (int no : NO_WORDS) {
            due("ask(" + no + ", 0, 1): -1, where it can't be too", x.ask(no, 0, 1), -1);
        }
        x.silent(0, true);
        for (int no : NO_WORDS) {
            due("ask(" + no + ", 0, 1)", x.ask(no, 0, 1), -1);
        }
        for (int no : NO_THINGS) {
            due("ask(0, " + no + ", 0)", x.ask(0, no, 0), -1);
            due("ask(0, 0, " + no + ")", x.ask(0, 0, no), -1);
        }
        due("with itself", x.ask(0, 5, 5), -1);
        counted("ask: -9 is no refusal", x, 17, 0, 0, 0, 0, 0);
    }

    // Promise 19. "A BOX is drawn (way 0 from, to; way 1 from, to): 1; 0 if it was drawn (it is anew)."
    private static void box() {
        SpaceWords x = new SpaceWords();
        x.box(1, 10, 20, 30, 40);
        due("drawn", x.box(0, 0, 10, 40, 99), 1);
        due("way 0 from, to", x.read(0, 0, 1), 1);
        due("way 1 from, to", x.read(1, 0, 1), 11);
        due("it was drawn", x.box(0, 10, 20, 30, 40), 0);
        due("it is anew, way 0", x.read(0, 0, 1), 6);
        due("it is anew, way 1", x.read(1, 0, 1), 6);
        due("drawn as it was", x.box(0, 10, 20, 30, 40), 0);
        due("boxes", x.count(2), 2);
        x.rub(0);
        due("rubbed, it was not drawn", x.box(0, 0, 1, 0, 1), 1);
    }

    // Promise 19. "-1; -4 a number below 0, to not above from; -6 a number above 99."
    private static void boxRefuses() {
        SpaceWords x = new SpaceWords();
        for (int no : NO_THINGS) {
            due("box(" + no + ")", x.box(no, 0, 1, 0, 1), -1);
            due("-1 goes ahead of -4", x.box(no, 1, 1, 0, 1), -1);
            due("-1 goes ahead of -6", x.box(no, 0, 100, 0, 1), -1);
        }
        due("a below 0", x.box(0, -1, 99, 0, 99), -4);
        due("b below 0", x.box(0, 0, 99, -1, 99), -4);
        due("a and z below 0", x.box(0, -2, -1, 0, 99), -4);
        due("b and y below 0", x.box(0, 0, 99, -2, -1), -4);
        due("z not above a", x.box(0, 99, 99, 0, 99), -4);
        due("y not above b", x.box(0, 0, 99, 99, 99), -4);
        due("z not above a, at 0", x.box(0, 0, 0, 0, 99), -4);
        due("y not above b, at 0", x.box(0, 0, 99, 0, 0), -4);
        due("-4 of a goes ahead of -6 of z", x.box(0, -1, 100, 0, 1), -4);
        due("-4 of way 1 goes ahead of -6 of way 0", x.box(0, 0, 100, 1, 1), -4);
        due("-4 of way 0 goes ahead of -6 of way 1", x.box(0, 1, 1, 0, 100), -4);
        due("from above 99, to below it", x.box(0, 100, 99, 0, 1), -4);
        due("from and to 100", x.box(0, 0, 1, 100, 100), -4);
        due("z above 99", x.box(0, 0, 100, 0, 99), -6);
        due("y above 99", x.box(0, 0, 99, 0, 100), -6);
        due("from and to above 99", x.box(0, 100, 101, 0, 99), -6);
        due("all above 99", x.box(0, 100, 101, 100, 101), -6);
        due("the greatest ints", x.box(0, 0, Integer.MAX_VALUE, 0, Integer.MAX_VALUE), -6);
        due("nothing is drawn", x.count(2), 0);
        due("the least and the greatest", x.box(0, 0, 99, 98, 99), 1);
        counted("box", x, 12, 0, 0, 13, 0, 5);
    }

    // Promise 20. "A BOX goes: 1. -1; -3 it isn't drawn."
    private static void rub() {
        SpaceWords x = new SpaceWords();
        due("it isn't drawn", x.rub(5), -3);
        x.box(5, 0, 1, 0, 1);
        x.box(0, 0, 1, 0, 1);
        due("it goes", x.rub(5), 1);
        due("it isn't drawn any more", x.rub(5), -3);
        due("the other stays", x.count(2), 1);
        due("read", x.read(0, 0, 5), -3);
        for (int no : NO_THINGS) {
            due("rub(" + no + ")", x.rub(no), -1);
        }
        counted("rub", x, 4, 0, 3, 0, 0, 0);
    }

    // "-3 one isn't drawn", for read, holds and moved
    private static void undrawnRefuses(String name) {
        SpaceWords x = new SpaceWords();
        due(name + ": none is drawn", new Call(name, 0, 0, 5).on(x), -3);
        x.box(0, 0, 1, 0, 1);
        due(name + ": b isn't drawn", new Call(name, 0, 0, 5).on(x), -3);
        due(name + ": a isn't drawn", new Call(name, 0, 5, 0).on(x), -3);
        due(name + ": -1 goes ahead of -3", new Call(name, 0, 5, 5).on(x), -1);
        x.box(5, 0, 1, 0, 1);
        due(name + ": both are", new Call(name, 0, 0, 5).on(x) < 0 ? 1 : 0, 0);
        x.rub(0);
        due(name + ": rubbed", new Call(name, 0, 0, 5).on(x), -3);
        counted(name, x, 1, 0, 4, 0, 0, 0);
    }

    // Promise 21. "The relation of two BOXES along a way. -1; -2; -3 one isn't drawn."
    private static void read() {
        alongRefuses("read");
        undrawnRefuses("read");
        SpaceWords x = new SpaceWords();
        due("-2 goes ahead of -3", x.read(2, 0, 1), -2);
        x.box(0, 0, 1, 98, 99);
        x.box(1, 98, 99, 0, 1);
        due("the first relation", x.read(0, 0, 1), 0);
        due("the last relation", x.read(1, 0, 1), 12);
        counted("read", x, 0, 1, 0, 0, 0, 0);
    }

    // Promise 22. "READING a WORD: 1, 0. -1; -3."
    private static void holds() {
        undrawnRefuses("holds");
        SpaceWords x = new SpaceWords();
        x.box(0, 0, 1, 98, 99);
        for (int no : NO_WORDS) {
            due("holds(" + no + ", 0, 1)", x.holds(no, 0, 1), -1);
        }
        x.box(1, 98, 99, 0, 1);
        for (int no : NO_THINGS) {
            due("holds(0, " + no + ", 0)", x.holds(0, no, 0), -1);
            due("holds(0, 0, " + no + ")", x.holds(0, 0, no), -1);
        }
        due("ALL", x.holds(7, 0, 1), 1);
        x.word(7, 0, 1);
        x.word(7, 1, 4096);
        due("the first and the last relation", x.holds(7, 0, 1), 1);
        due("of the other", x.holds(7, 1, 0), 0);
        x.word(7, 1, 4095);
        due("not along way 1", x.holds(7, 0, 1), 0);
        x.word(7, 0, 8190);
        due("along none", x.holds(7, 0, 1), 0);
        x.word(7, 1, 4096);
        due("not along way 0", x.holds(7, 0, 1), 0);
        counted("holds", x, 12, 0, 0, 0, 0, 0);
    }

    // Promise 23. "FITS."
    private static void fits() {
        SpaceWords x = new SpaceWords();
        due("nothing", x.fits(), 0);
        x.tell(5, 0, 0, 8191);
        x.tell(5, 0, 8191, 8191);
        x.box(5, 0, 1, 0, 1);
        due("b isn't drawn", x.fits(), 0);
        x.box(0, 0, 1, 0, 1);
        due("one doesn't hold", x.fits(), 1);
        x.silent(0, true);
        due("but it is silent", x.fits(), 0);
        x.silent(0, false);
        x.rub(5);
        due("a isn't drawn", x.fits(), 0);
        counted("fits", x, 0, 0, 0, 0, 0, 0);
    }

    // Promise 24. "MOVED; -9 it can't be. -1; -2; -3."
    private static void moved() {
        alongRefuses("moved");
        undrawnRefuses("moved");
        SpaceWords x = new SpaceWords();
        due("-2 goes ahead of -3", x.moved(2, 0, 1), -2);
        x.box(0, 98, 99, 0, 1);
        x.box(1, 0, 1, 98, 99);
        due("the most", x.moved(0, 0, 1), 6);
        due("none", x.moved(1, 0, 1), 0);
        x.tell(4, 5, 0, 8191);
        due("-9", x.moved(0, 0, 1), -9);
        due("along the other way", x.moved(1, 0, 1), 0);
        due("-3 where it can't be", x.moved(0, 0, 2), -3);
        counted("moved: -9 is no refusal", x, 0, 1, 1, 0, 0, 0);
    }

    // Promise 25. "0 STATEMENTS, 1 those that are told, 2 BOXES, 11 .. 16 REFUSALS -1 .. -6. -9 for another what."
    private static void count() {
        SpaceWords x = new SpaceWords();
        int[] others = {Integer.MIN_VALUE, -16, -11, -6, -1, 3, 4, 9, 10, 17, 18, Integer.MAX_VALUE};
        for (int no : others) {
            due("count(" + no + ")", x.count(no), -9);
        }
        counted("-9 is no refusal", x, 0, 0, 0, 0, 0, 0);
        for (int n = 0; n < 31; n++) {
            x.tell(0, 1, 8191, 8191);
        }
        for (int n = 0; n < 30; n++) {
            due("told", x.count(1), 30 - n);
            x.silent(n, true);
        }
        due("none is told", x.count(1), 0);
        due("but there are 30", x.count(0), 30);
        for (int thing = 0; thing < 6; thing++) {
            x.box(thing, 0, 1, 0, 1);
            due("boxes", x.count(2), thing + 1);
        }
        x.near(13, 0);
        x.core(2);
        x.core(2);
        x.rub(0);
        x.rub(0);
        x.rub(0);
        x.rub(0);
        for (int n = 0; n < 4; n++) {
            x.box(0, 1, 1, 0, 1);
        }
        for (int n = 0; n < 4; n++) {
            x.box(0, 1, 100, 0, 1);
        }
        due("boxes", x.count(2), 5);
        counted("each its own", x, 1, 2, 3, 4, 0, 5);
    }
}
