/** Promises 16 to 18: word, say, ask. */
public final class WordsTest {
    private static final Checks CHECKS = new Checks();

    public static void main(String[] args) {
        word();
        say();
        ask();
        CHECKS.done("WordsTest");
    }

    private static void word() {
        SpaceWords x = new SpaceWords();
        for (int word = 0; word < 8; word++) {
            for (int way = 0; way < 2; way++) {
                CHECKS.due("at first", x.word(word, way, word * 2 + way), 8191);
            }
        }
        for (int word = 0; word < 8; word++) {
            for (int way = 0; way < 2; way++) {
                CHECKS.due("what it was", x.word(word, way, 8191), word * 2 + way);
            }
        }
        int[] wrong = {-1, Integer.MIN_VALUE, Integer.MAX_VALUE, 8192};
        for (int no : wrong) {
            CHECKS.due("word(" + no + ", 9, -1)", x.word(no, 9, -1), -1);
            CHECKS.due("word(0, " + no + ", 1)", x.word(0, no, 1), -2);
            CHECKS.due("word(0, 1, " + no + ")", x.word(0, 1, no), -2);
        }
        CHECKS.due("word(8, 0, 1)", x.word(8, 0, 1), -1);
        CHECKS.due("word(7, 2, 1)", x.word(7, 2, 1), -2);
        CHECKS.due("unchanged", x.word(0, 1, 5), 8191);
        CHECKS.due("count(11)", x.count(11), 5);
        CHECKS.due("count(12)", x.count(12), 9);
    }

    private static void say() {
        SpaceWords x = new SpaceWords();
        x.word(3, 0, 3);
        x.word(3, 1, 96);
        CHECKS.due("say", x.say(3, 5, 1), 0);
        x.word(3, 0, 8);
        CHECKS.due("its sets as they were then", x.statement(0, 2), 3);
        CHECKS.due("its other set", x.statement(0, 3), 96);
        CHECKS.due("a", x.statement(0, 0), 5);
        CHECKS.due("b", x.statement(0, 1), 1);
        CHECKS.due("told", x.statement(0, 4), 1);
        CHECKS.due("told set", x.told(0, 1, 5), Plain.turned(3));
        CHECKS.due("say anew", x.say(3, 5, 2), 1);
        CHECKS.due("its new set", x.statement(1, 2), 8);
        CHECKS.due("say(8)", x.say(8, 0, 1), -1);
        CHECKS.due("say(-1)", x.say(-1, 0, 1), -1);
        CHECKS.due("say(0, 6, 1)", x.say(0, 6, 1), -1);
        CHECKS.due("say(0, 1, -1)", x.say(0, 1, -1), -1);
        CHECKS.due("say(0, 2, 2)", x.say(0, 2, 2), -1);
        CHECKS.due("count(0)", x.count(0), 2);
        for (int n = 2; n < 30; n++) {
            CHECKS.due("say", x.say(7, 0, 1), n);
        }
        CHECKS.due("no room", x.say(7, 0, 1), -6);
        CHECKS.due("nobody, without room", x.say(8, 0, 1), -1);
        CHECKS.due("count(16)", x.count(16), 1);
        CHECKS.due("count(11)", x.count(11), 6);
    }

    private static void ask() {
        SpaceWords x = new SpaceWords();
        x.word(0, 0, 1);
        x.word(1, 0, 3);
        x.word(2, 1, 64);
        x.word(3, 0, 0);
        x.tell(0, 1, 1, 8191);
        x.tell(1, 2, 1, 8191);
        CHECKS.due("it follows", x.ask(0, 0, 2), 1);
        CHECKS.due("a wider one follows", x.ask(1, 0, 2), 1);
        CHECKS.due("it can't be", x.ask(0, 2, 0), 0);
        CHECKS.due("it may be", x.ask(0, 0, 3), 2);
        CHECKS.due("may be along way 1", x.ask(2, 0, 1), 2);
        CHECKS.due("an empty word can't be", x.ask(3, 0, 1), 0);
        CHECKS.due("ALL follows", x.ask(7, 4, 5), 1);
        x.word(0, 1, 64);
        CHECKS.due("follows along one way alone", x.ask(0, 0, 2), 2);
        x.tell(0, 2, 8191, 1);
        CHECKS.due("can't be along one way", x.ask(0, 0, 2), 0);
        x.tell(3, 4, 8191, 0);
        CHECKS.due("what is told can't be", x.ask(0, 0, 2), -9);
        CHECKS.due("nor of ALL", x.ask(7, 4, 5), -9);
        CHECKS.due("ask(8)", x.ask(8, 0, 1), -1);
        CHECKS.due("ask(-1)", x.ask(-1, 0, 1), -1);
        CHECKS.due("ask(0, 6, 0)", x.ask(0, 6, 0), -1);
        CHECKS.due("ask(0, 0, 6)", x.ask(0, 0, 6), -1);
        CHECKS.due("ask(0, 4, 4)", x.ask(0, 4, 4), -1);
        CHECKS.due("count(11)", x.count(11), 5);
        x.silent(3, true);
        CHECKS.due("silent: it can be again", x.ask(0, 0, 2), 0);
        SpaceWords y = new SpaceWords();
        y.tell(0, 1, 0, 8191);
        CHECKS.due("can't be along way 0", y.ask(0, 2, 3), -9);
    }
}
