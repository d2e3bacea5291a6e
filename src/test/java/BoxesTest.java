/** Promises 19 to 25: box, rub, read, holds, fits, moved, count. */
public final class BoxesTest {
    private static final Checks CHECKS = new Checks();

    public static void main(String[] args) {
        box();
        boxRefuses();
        rub();
        read();
        holds();
        fits();
        moved();
        count();
        CHECKS.done("BoxesTest");
    }

    private static void box() {
        SpaceWords x = new SpaceWords();
        for (int thing = 0; thing < 6; thing++) {
            CHECKS.due("box", x.box(thing, 0, 99, 98, 99), 1);
            CHECKS.due("count(2)", x.count(2), thing + 1);
        }
        CHECKS.due("all alike", x.read(0, 0, 1), 6);
        CHECKS.due("box anew", x.box(1, 0, 98, 0, 98), 0);
        CHECKS.due("it is anew, way 0", x.read(0, 0, 1), 9);
        CHECKS.due("it is anew, way 1", x.read(1, 0, 1), 11);
        CHECKS.due("count(2)", x.count(2), 6);
    }

    private static void boxRefuses() {
        SpaceWords x = new SpaceWords();
        int[] noThings = {-1, 6, Integer.MIN_VALUE, Integer.MAX_VALUE};
        for (int no : noThings) {
            CHECKS.due("box(" + no + ")", x.box(no, -1, 100, 5, 5), -1);
        }
        CHECKS.due("a below 0", x.box(0, -1, 1, 0, 1), -4);
        CHECKS.due("b below 0", x.box(0, 0, 1, -1, 1), -4);
        CHECKS.due("z below 0", x.box(0, -3, -2, 0, 1), -4);
        CHECKS.due("y below 0", x.box(0, 0, 1, -3, -2), -4);
        CHECKS.due("z is a", x.box(0, 5, 5, 0, 1), -4);
        CHECKS.due("z below a", x.box(0, 5, 4, 0, 1), -4);
        CHECKS.due("y is b", x.box(0, 0, 1, 7, 7), -4);
        CHECKS.due("y below b", x.box(0, 0, 1, 7, 0), -4);
        CHECKS.due("below goes ahead of above", x.box(0, 0, 100, 7, 7), -4);
        CHECKS.due("above and not above", x.box(0, 100, 100, 0, 1), -4);
        CHECKS.due("least numbers", x.box(0, Integer.MIN_VALUE, 1, 0, 1), -4);
        CHECKS.due("z above 99", x.box(0, 0, 100, 0, 1), -6);
        CHECKS.due("y above 99", x.box(0, 0, 1, 0, 100), -6);
        CHECKS.due("a and z above 99", x.box(0, 100, 101, 0, 1), -6);
        CHECKS.due("greatest numbers", x.box(0, 0, Integer.MAX_VALUE, 0, Integer.MAX_VALUE), -6);
        CHECKS.due("count(2)", x.count(2), 0);
        CHECKS.due("count(11)", x.count(11), 4);
        CHECKS.due("count(14)", x.count(14), 11);
        CHECKS.due("count(16)", x.count(16), 4);
        CHECKS.due("box", x.box(0, 0, 1, 0, 1), 1);
        CHECKS.due("refused anew", x.box(0, 0, 100, 0, 1), -6);
        x.box(1, 1, 2, 1, 2);
        CHECKS.due("the old one stays", x.read(0, 0, 1), 1);
    }

    private static void rub() {
        SpaceWords x = new SpaceWords();
        CHECKS.due("rub, not drawn", x.rub(3), -3);
        x.box(3, 0, 1, 0, 1);
        CHECKS.due("rub", x.rub(3), 1);
        CHECKS.due("rub again", x.rub(3), -3);
        CHECKS.due("count(2)", x.count(2), 0);
        CHECKS.due("drawn again", x.box(3, 0, 1, 0, 1), 1);
        int[] noThings = {-1, 6, Integer.MIN_VALUE, Integer.MAX_VALUE};
        for (int no : noThings) {
            CHECKS.due("rub(" + no + ")", x.rub(no), -1);
        }
        CHECKS.due("count(13)", x.count(13), 2);
        CHECKS.due("count(11)", x.count(11), 4);
    }

    private static void read() {
        for (int[] p : Plain.STRETCHES) {
            SpaceWords x = new SpaceWords();
            x.box(4, p[0], p[1], 98, 99);
            for (int[] q : Plain.STRETCHES) {
                x.box(1, q[0], q[1], q[0] + 92, q[1] + 92);
                int r = Plain.relation(p[0], p[1], q[0], q[1]);
                CHECKS.due("read way 0", x.read(0, 4, 1), r);
                CHECKS.due("read way 0 turned", x.read(0, 1, 4), 12 - r);
                CHECKS.due("read way 1", x.read(1, 4, 1), Plain.relation(98, 99, q[0] + 92, q[1] + 92));
            }
        }
        SpaceWords x = new SpaceWords();
        x.box(0, 0, 1, 0, 1);
        CHECKS.due("one isn't drawn", x.read(0, 0, 1), -3);
        CHECKS.due("the other isn't", x.read(1, 1, 0), -3);
        CHECKS.due("none is", x.read(1, 1, 2), -3);
        CHECKS.due("way ahead of state", x.read(2, 0, 1), -2);
        CHECKS.due("read(-1, 0, 1)", x.read(-1, 0, 1), -2);
        CHECKS.due("nobody ahead of way", x.read(2, 0, 6), -1);
        CHECKS.due("read(0, -1, 0)", x.read(0, -1, 0), -1);
        CHECKS.due("with itself", x.read(0, 0, 0), -1);
        CHECKS.due("count(13)", x.count(13), 3);
    }

    private static void holds() {
        SpaceWords x = new SpaceWords();
        x.box(0, 0, 5, 2, 4);
        x.box(1, 5, 9, 0, 6);
        CHECKS.due("ALL holds", x.holds(0, 0, 1), 1);
        x.word(0, 0, 2);
        x.word(0, 1, 16);
        CHECKS.due("both", x.holds(0, 0, 1), 1);
        CHECKS.due("not turned", x.holds(0, 1, 0), 0);
        x.word(0, 0, 8191 - 2);
        CHECKS.due("not along way 0", x.holds(0, 0, 1), 0);
        x.word(0, 0, 8191);
        x.word(0, 1, 8191 - 16);
        CHECKS.due("not along way 1", x.holds(0, 0, 1), 0);
        CHECKS.due("not drawn", x.holds(0, 0, 2), -3);
        CHECKS.due("holds(8)", x.holds(8, 0, 2), -1);
        CHECKS.due("holds(-1)", x.holds(-1, 0, 2), -1);
        CHECKS.due("holds(0, 0, 0)", x.holds(0, 0, 0), -1);
        CHECKS.due("holds(0, 6, 0)", x.holds(0, 6, 0), -1);
        CHECKS.due("count(11)", x.count(11), 4);
        CHECKS.due("count(13)", x.count(13), 1);
    }

    private static void fits() {
        SpaceWords x = new SpaceWords();
        x.tell(0, 1, 1, 8191);
        x.tell(1, 0, 4096, 64);
        x.tell(0, 2, 0, 0);
        CHECKS.due("nothing drawn", x.fits(), 0);
        x.box(0, 0, 1, 0, 1);
        CHECKS.due("one drawn", x.fits(), 0);
        x.box(1, 1, 2, 0, 1);
        CHECKS.due("both drawn", x.fits(), 2);
        x.box(1, 2, 3, 0, 1);
        CHECKS.due("it holds now", x.fits(), 0);
        x.box(1, 2, 3, 0, 2);
        CHECKS.due("not along way 1", x.fits(), 1);
        x.box(2, 0, 1, 0, 1);
        CHECKS.due("an empty one never holds", x.fits(), 2);
        x.silent(2, true);
        CHECKS.due("silent ones aside", x.fits(), 1);
        x.rub(1);
        CHECKS.due("rubbed", x.fits(), 0);
    }

    private static void moved() {
        SpaceWords x = new SpaceWords();
        x.box(0, 10, 20, 0, 1);
        x.box(1, 0, 5, 0, 1);
        CHECKS.due("from 12 to 0", x.moved(0, 0, 1), 6);
        CHECKS.due("from 0 to 12", x.moved(0, 1, 0), 6);
        CHECKS.due("from 6 to 0", x.moved(1, 0, 1), 3);
        x.tell(0, 1, 6, 64);
        CHECKS.due("from 12 to 1", x.moved(0, 0, 1), 5);
        CHECKS.due("from 6 to 6", x.moved(1, 0, 1), 0);
        CHECKS.due("not drawn", x.moved(0, 0, 2), -3);
        CHECKS.due("way ahead of state", x.moved(2, 0, 2), -2);
        CHECKS.due("nobody ahead of way", x.moved(2, 0, 6), -1);
        CHECKS.due("with itself", x.moved(0, 1, 1), -1);
        x.tell(3, 4, 0, 8191);
        CHECKS.due("it can't be", x.moved(0, 0, 1), -9);
        CHECKS.due("along the other way it can", x.moved(1, 0, 1), 0);
        CHECKS.due("refusals go ahead of -9", x.moved(0, 0, 2), -3);
        CHECKS.due("count(13)", x.count(13), 2);
        CHECKS.due("count(12)", x.count(12), 1);
        CHECKS.due("count(11)", x.count(11), 2);
    }

    private static void count() {
        SpaceWords x = new SpaceWords();
        int[] others = {-1, 3, 10, 17, -9, 26, Integer.MIN_VALUE, Integer.MAX_VALUE};
        for (int no : others) {
            CHECKS.due("count(" + no + ")", x.count(no), -9);
        }
        x.rub(0);
        x.rub(6);
        x.rub(6);
        x.turned(-1);
        x.box(0, 1, 1, 0, 1);
        x.box(0, 0, 100, 0, 1);
        int[] want = {2, 1, 1, 1, 0, 1};
        for (int i = 0; i < 6; i++) {
            CHECKS.due("count(" + (11 + i) + ")", x.count(11 + i), want[i]);
        }
        x.tell(0, 1, 1, 1);
        x.tell(0, 1, 1, 1);
        x.silent(0, true);
        x.box(5, 0, 1, 0, 1);
        CHECKS.due("count(0)", x.count(0), 2);
        CHECKS.due("count(1)", x.count(1), 1);
        CHECKS.due("count(2)", x.count(2), 1);
    }
}
