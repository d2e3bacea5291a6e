/** Promises 1 and 6 to 9: a new object, tell, silent, statement, told. */
public final class StatementsTest {
    private static final Checks CHECKS = new Checks();

    public static void main(String[] args) {
        newObject();
        tell();
        tellRefuses();
        silent();
        statement();
        told();
        objectsAreApart();
        CHECKS.done("StatementsTest");
    }

    private static void newObject() {
        SpaceWords x = new SpaceWords();
        for (int what = 0; what < 3; what++) {
            CHECKS.due("new: count(" + what + ")", x.count(what), 0);
        }
        for (int what = 11; what < 17; what++) {
            CHECKS.due("new: count(" + what + ")", x.count(what), 0);
        }
        CHECKS.due("new: fits()", x.fits(), 0);
        for (int way = 0; way < 2; way++) {
            CHECKS.due("new: canBe", x.canBe(way), 1);
            CHECKS.due("new: core", x.core(way), 0);
            for (int a = 0; a < 6; a++) {
                CHECKS.due("new: drawing A", x.drawing(way, a, 0), 2 * a);
                CHECKS.due("new: drawing Z", x.drawing(way, a, 1), 2 * a + 1);
                for (int b = 0; b < 6; b++) {
                    if (a != b) {
                        CHECKS.due("new: told", x.told(way, a, b), 8191);
                        CHECKS.due("new: closed", x.closed(way, a, b), 8191);
                        CHECKS.due("new: can", x.can(way, a, b), 8191);
                        CHECKS.due("new: drawn", x.drawn(way, a, b), a < b ? 0 : 12);
                    }
                }
            }
        }
        CHECKS.due("new: rub", x.rub(0), -3);
        CHECKS.due("new: silent", x.silent(0, true), -1);
        CHECKS.due("new: statement", x.statement(0, 0), -1);
        CHECKS.due("new: ask", x.ask(7, 5, 4), 1);
    }

    private static void tell() {
        SpaceWords x = new SpaceWords();
        for (int n = 0; n < 30; n++) {
            CHECKS.due("tell number " + n, x.tell(n % 6, (n + 1) % 6, 8191, 0), n);
            CHECKS.due("count(0)", x.count(0), n + 1);
            CHECKS.due("count(1)", x.count(1), n + 1);
        }
        CHECKS.due("tell without room", x.tell(0, 1, 1, 1), -6);
        CHECKS.due("say without room", x.say(0, 0, 1), -6);
        CHECKS.due("tell wrong, without room", x.tell(0, 1, -1, 1), -2);
        CHECKS.due("tell nobody, without room", x.tell(6, 1, -1, 1), -1);
        CHECKS.due("silent leaves no room", x.silent(0, true), 1);
        CHECKS.due("tell without room", x.tell(0, 1, 1, 1), -6);
        CHECKS.due("count(0)", x.count(0), 30);
        CHECKS.due("count(16)", x.count(16), 3);
    }

    private static void tellRefuses() {
        SpaceWords x = new SpaceWords();
        int[] noThings = {-1, 6, Integer.MIN_VALUE, Integer.MAX_VALUE};
        for (int no : noThings) {
            CHECKS.due("tell(" + no + ", 0)", x.tell(no, 0, 1, 1), -1);
            CHECKS.due("tell(0, " + no + ")", x.tell(0, no, 1, 1), -1);
            CHECKS.due("tell(" + no + ", 0, -1)", x.tell(no, 0, -1, 8192), -1);
        }
        CHECKS.due("tell(3, 3)", x.tell(3, 3, -1, 1), -1);
        int[] noSets = {-1, 8192, Integer.MIN_VALUE, Integer.MAX_VALUE};
        for (int no : noSets) {
            CHECKS.due("tell(0, 1, " + no + ", 1)", x.tell(0, 1, no, 1), -2);
            CHECKS.due("tell(0, 1, 1, " + no + ")", x.tell(0, 1, 1, no), -2);
        }
        CHECKS.due("count(0)", x.count(0), 0);
        CHECKS.due("count(11)", x.count(11), 13);
        CHECKS.due("count(12)", x.count(12), 8);
        CHECKS.due("told", x.told(0, 0, 1), 8191);
        CHECKS.due("tell 0 0", x.tell(5, 0, 0, 8191), 0);
    }

    private static void silent() {
        SpaceWords x = new SpaceWords();
        x.tell(0, 1, 1, 2);
        x.tell(1, 0, 1, 2);
        CHECKS.due("silent, told already", x.silent(0, false), 0);
        CHECKS.due("canBe", x.canBe(0), 0);
        CHECKS.due("silent", x.silent(1, true), 1);
        CHECKS.due("silent again", x.silent(1, true), 0);
        CHECKS.due("canBe", x.canBe(0), 1);
        CHECKS.due("told", x.told(0, 1, 0), 4096);
        CHECKS.due("count(0)", x.count(0), 2);
        CHECKS.due("count(1)", x.count(1), 1);
        CHECKS.due("told again", x.silent(1, false), 1);
        CHECKS.due("told again, twice", x.silent(1, false), 0);
        CHECKS.due("canBe", x.canBe(0), 0);
        int[] none = {-1, 2, 30, 32, Integer.MIN_VALUE, Integer.MAX_VALUE};
        for (int no : none) {
            CHECKS.due("silent(" + no + ")", x.silent(no, true), -1);
            CHECKS.due("silent(" + no + ")", x.silent(no, false), -1);
        }
        CHECKS.due("count(11)", x.count(11), 12);
        CHECKS.due("count(1)", x.count(1), 2);
    }

    private static void statement() {
        SpaceWords x = new SpaceWords();
        x.tell(4, 2, 7, 8000);
        x.tell(1, 5, 0, 8191);
        x.silent(1, true);
        int[][] want = {{4, 2, 7, 8000, 1}, {1, 5, 0, 8191, 0}};
        for (int s = 0; s < 2; s++) {
            for (int what = 0; what < 5; what++) {
                CHECKS.due("statement(" + s + ", " + what + ")", x.statement(s, what), want[s][what]);
            }
        }
        int[] others = {-1, 5, Integer.MIN_VALUE, Integer.MAX_VALUE};
        for (int no : others) {
            CHECKS.due("statement(0, " + no + ")", x.statement(0, no), -2);
            CHECKS.due("statement(2, " + no + ")", x.statement(2, no), -1);
        }
        CHECKS.due("statement(-1, 0)", x.statement(-1, 0), -1);
        CHECKS.due("count(11)", x.count(11), 5);
        CHECKS.due("count(12)", x.count(12), 4);
    }

    private static void told() {
        SpaceWords x = new SpaceWords();
        x.tell(0, 1, 7, 8191);
        x.tell(1, 0, Plain.turned(14), 3);
        CHECKS.due("told from one side", x.told(0, 0, 1), 6);
        CHECKS.due("told from the other", x.told(0, 1, 0), Plain.turned(6));
        CHECKS.due("told along way 1", x.told(1, 0, 1), Plain.turned(3));
        CHECKS.due("told along way 1, turned", x.told(1, 1, 0), 3);
        x.tell(1, 2, 1, 1);
        CHECKS.due("told is not closed", x.told(0, 0, 2), 8191);
        x.tell(0, 1, 1, 8191);
        CHECKS.due("told may be none", x.told(0, 0, 1), 0);
        CHECKS.due("the others are as told", x.told(0, 1, 2), 1);
        x.silent(3, true);
        x.silent(1, true);
        CHECKS.due("silent ones let all", x.told(0, 0, 1), 7);
        CHECKS.due("told(2, 0, 1)", x.told(2, 0, 1), -2);
        CHECKS.due("told(-1, 0, 1)", x.told(-1, 0, 1), -2);
        CHECKS.due("told(2, 0, 0)", x.told(2, 0, 0), -1);
        CHECKS.due("told(0, 6, 0)", x.told(0, 6, 0), -1);
        CHECKS.due("told(0, 0, -1)", x.told(0, 0, -1), -1);
    }

    private static void objectsAreApart() {
        SpaceWords x = new SpaceWords();
        SpaceWords y = new SpaceWords();
        x.tell(0, 1, 0, 0);
        x.word(0, 0, 1);
        x.box(0, 0, 1, 0, 1);
        x.tell(9, 9, 9, 9);
        CHECKS.due("y.count(0)", y.count(0), 0);
        CHECKS.due("y.count(2)", y.count(2), 0);
        CHECKS.due("y.count(11)", y.count(11), 0);
        CHECKS.due("y.canBe(0)", y.canBe(0), 1);
        CHECKS.due("y.word(0, 0, 5)", y.word(0, 0, 5), 8191);
    }
}
