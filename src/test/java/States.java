import java.util.ArrayList;
import java.util.List;

/** Runs of calls that bring an object into a state, and the calls that look at all of a state. */
final class States {
    private States() {
    }

    /** Nothing is told or drawn. */
    static List<Call> fresh() {
        return new ArrayList<>();
    }

    /** Some is told, some silent, some drawn; along both ways it can be. */
    static List<Call> loose() {
        List<Call> calls = new ArrayList<>();
        calls.add(new Call("word", 0, 0, 3));
        calls.add(new Call("word", 0, 1, 96));
        calls.add(new Call("word", 7, 0, 0));
        calls.add(new Call("say", 0, 0, 5));
        calls.add(new Call("tell", 5, 1, 7, 8128));
        calls.add(new Call("tell", 2, 0, 0, 0));
        calls.add(new Call("silent", 2, 1));
        calls.add(new Call("tell", 3, 1, 4176, 1033));
        calls.add(new Call("box", 0, 0, 99, 98, 99));
        calls.add(new Call("box", 5, 1, 2, 0, 98));
        calls.add(new Call("box", 4, 1, 99, 0, 99));
        calls.add(new Call("rub", 4));
        return calls;
    }

    /** As loose, but along one way what is told can't be. */
    static List<Call> quarrel(int way) {
        List<Call> calls = loose();
        calls.add(new Call("tell", 1, 4, way == 0 ? 1 : 8191, way == 1 ? 1 : 8191));
        calls.add(new Call("tell", 4, 5, way == 0 ? 1 : 8191, way == 1 ? 1 : 8191));
        calls.add(new Call("tell", 5, 1, way == 0 ? 1 : 8191, way == 1 ? 1 : 8191));
        return calls;
    }

    /** All thirty statements are there, and all six boxes. */
    static List<Call> full() {
        List<Call> calls = loose();
        for (int n = 4; n < 30; n++) {
            calls.add(new Call("tell", n % 6, (n + 1 + n % 5) % 6, 8191, 8191 - (n == 29 ? 1 : 0)));
        }
        for (int thing = 0; thing < 6; thing++) {
            calls.add(new Call("box", thing, thing, thing + 2, 90 + thing, 99));
        }
        return calls;
    }

    /** Looks at all that can change but the words, which a look would change. */
    static List<Call> looks() {
        List<Call> calls = new ArrayList<>();
        for (int what = 0; what < 17; what++) {
            calls.add(new Call("count", what));
        }
        calls.add(new Call("fits"));
        for (int statement = 0; statement < 30; statement++) {
            for (int what = 0; what < 5; what++) {
                calls.add(new Call("statement", statement, what));
            }
        }
        for (int way = 0; way < 2; way++) {
            calls.add(new Call("canBe", way));
            calls.add(new Call("core", way));
            calls.add(new Call("can", way, 5, 0));
            calls.add(new Call("moved", way, 0, 5));
            for (int a = 0; a < 6; a++) {
                calls.add(new Call("drawing", way, a, 0));
                for (int b = a + 1; b < 6; b++) {
                    calls.add(new Call("told", way, a, b));
                    calls.add(new Call("read", way, a, b));
                }
            }
        }
        return calls;
    }

    /** The last calls of an object: what each word's sets were. */
    static List<Call> lastLooks() {
        List<Call> calls = new ArrayList<>();
        for (int word = 0; word < 8; word++) {
            calls.add(new Call("word", word, 0, 1));
            calls.add(new Call("word", word, 1, 1));
        }
        return calls;
    }
}
