import java.util.Random;

/** Promises 2 to 5: turned, composed, near, steps. No object gets more than 512 calls. */
public final class RelationsTest {
    private static final Checks CHECKS = new Checks();
    private static final int[] NO_SETS = {-1, 8192, -8191, 16383, Integer.MAX_VALUE, Integer.MIN_VALUE};
    private static final int[] NO_RELATIONS = {-1, 13, 32, Integer.MAX_VALUE, Integer.MIN_VALUE};

    public static void main(String[] args) {
        turned();
        composed();
        nearAndSteps();
        wrongInputs();
        CHECKS.done("RelationsTest");
    }

    private static void turned() {
        SpaceWords x = new SpaceWords();
        for (int set = 0; set <= 8191; set++) {
            x = set % 256 == 0 ? new SpaceWords() : x;
            CHECKS.due("turned(" + set + ")", x.turned(set), Plain.turned(set));
        }
        for (int r = 0; r < 13; r++) {
            CHECKS.due("turned of relation " + r, x.turned(1 << r), 1 << 12 - r);
        }
    }

    private static void composed() {
        SpaceWords x = new SpaceWords();
        for (int r = 0; r < 13; r++) {
            for (int s = 0; s < 13; s++) {
                CHECKS.due("composed of " + r + " and " + s, x.composed(1 << r, 1 << s), Plain.COMPOSED[r][s]);
            }
        }
        Random random = new Random(11);
        for (int i = 0; i < 20000; i++) {
            x = i % 256 == 0 ? new SpaceWords() : x;
            int r = random.nextInt(8192) & random.nextInt(8192);
            int s = random.nextInt(8192) & random.nextInt(8192);
            CHECKS.due("composed(" + r + ", " + s + ")", x.composed(r, s), Plain.composed(r, s));
        }
        for (int set = 0; set <= 8191; set++) {
            x = set % 64 == 0 ? new SpaceWords() : x;
            CHECKS.due("composed(ALL, " + set + ")", x.composed(8191, set), set == 0 ? 0 : 8191);
            CHECKS.due("composed(" + set + ", ALL)", x.composed(set, 8191), set == 0 ? 0 : 8191);
            CHECKS.due("composed(" + set + ", same)", x.composed(set, 64), set);
            CHECKS.due("composed(0, " + set + ")", x.composed(0, set), 0);
        }
    }

    private static void nearAndSteps() {
        SpaceWords x = new SpaceWords();
        for (int r = 0; r < 13; r++) {
            CHECKS.due("near to itself", x.near(r, r), 0);
            CHECKS.due("steps to itself", x.steps(r, r), 0);
            for (int s = 0; s < 13; s++) {
                CHECKS.due("near(" + r + ", " + s + ")", x.near(r, s), Plain.near(r, s) ? 1 : 0);
                CHECKS.due("steps(" + r + ", " + s + ")", x.steps(r, s), Plain.STEPS[r][s]);
            }
        }
        // From 0 1 and 1 2 to 0 2 and 1 2: a stretch of length 1 makes these two near.
        CHECKS.due("near(1, 7)", x.near(1, 7), 1);
        CHECKS.due("steps(0, 12)", x.steps(0, 12), 6);
    }

    private static void wrongInputs() {
        SpaceWords x = new SpaceWords();
        int others = 0;
        int nobodies = 0;
        for (int set : NO_SETS) {
            CHECKS.due("turned(" + set + ")", x.turned(set), -2);
            CHECKS.due("composed(" + set + ", 1)", x.composed(set, 1), -2);
            CHECKS.due("composed(1, " + set + ")", x.composed(1, set), -2);
            others += 3;
        }
        for (int r : NO_RELATIONS) {
            CHECKS.due("near(" + r + ", 0)", x.near(r, 0), -1);
            CHECKS.due("near(0, " + r + ")", x.near(0, r), -1);
            CHECKS.due("steps(" + r + ", 0)", x.steps(r, 0), -1);
            CHECKS.due("steps(0, " + r + ")", x.steps(0, r), -1);
            CHECKS.due("near(" + r + ", " + r + ")", x.near(r, r), -1);
            nobodies += 5;
        }
        CHECKS.due("count(12)", x.count(12), others);
        CHECKS.due("count(11)", x.count(11), nobodies);
    }
}
