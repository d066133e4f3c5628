/** Promises 19 to 22. */
final class CameraTest {
    private static final int LEAST = Integer.MIN_VALUE;

    public static void main(String[] args) {
        pairsAndShutting();
        pairRefusals();
        answersOfNoneAndOne();
        everyHeadingIsFound();
        unlikeShifts();
        Due.end();
    }

    private static void pairsAndShutting() {
        TrueArms x = new TrueArms();
        Due.is("shut() of none", x.shut(), 0);
        for (int i = 1; i <= 20; i++) {
            Due.is("pair " + i, x.pair(1000, -1000, 1000, -1000), i);
        }
        Due.is("pair 21", x.pair(0, 0, 0, 0), -4);
        Due.is("bad before full", x.pair(0, 0, 0, 1001), -2);
        Due.is("count(2)", x.count(2), 20);
        Due.is("shut()", x.shut(), 20);
        Due.is("count(2) then", x.count(2), 0);
        Due.is("pair 1 again", x.pair(0, 0, 0, 0), 1);
    }

    private static void pairRefusals() {
        TrueArms x = new TrueArms();
        for (int at = 0; at < 4; at++) {
            for (int v : new int[] {-1001, 1001}) {
                int[] a = {0, 0, 0, 0};
                a[at] = v;
                Due.is("a pair with " + v + " at " + at, x.pair(a[0], a[1], a[2], a[3]), -2);
            }
        }
        Due.is("count(2)", x.count(2), 0);
    }

    private static void answersOfNoneAndOne() {
        TrueArms x = new TrueArms();
        Due.is("answers()", x.answers(), 36);
        Due.is("answer(35, 0)", x.answer(35, 0), 35);
        Due.is("answer(35, 1)", x.answer(35, 1), LEAST + 1);
        Due.is("answer(35, 2)", x.answer(35, 2), LEAST + 1);
        Due.is("answer(36, 1): bad before not", x.answer(36, 1), LEAST);
        Due.is("answer(-1, 0)", x.answer(-1, 0), LEAST);
        Due.is("answer(0, 3)", x.answer(0, 3), LEAST);
        Due.is("answer(0, -1)", x.answer(0, -1), LEAST);
        x.pair(2, 3, 10, 20);
        Due.is("answers() of one", x.answers(), 36);
        Due.is("answer(1, 0)", x.answer(1, 0), 1);
        Due.is("answer(1, 1)", x.answer(1, 1), 650 - 63 * 2 + 16 * 3);
        Due.is("answer(1, 2)", x.answer(1, 2), 1300 - 16 * 2 - 63 * 3);
        Due.is("answer(36, 0) of one", x.answer(36, 0), LEAST);
    }

    /** A place 65 away from the first is turned onto a whole place by each heading. */
    private static void everyHeadingIsFound() {
        for (int h = 0; h < 36; h++) {
            TrueArms x = new TrueArms();
            x.pair(0, 0, 3, 4);
            x.pair(65, 0, 3 + x.turn(h, 0), 4 + x.turn(h, 1));
            x.pair(0, 65, 3 - x.turn(h, 1), 4 + x.turn(h, 0));
            Due.is("answers() for " + h, x.answers(), 1);
            Due.is("answer(0, 0) for " + h, x.answer(0, 0), h);
            Due.is("answer(0, 1) for " + h, x.answer(0, 1), 195);
            Due.is("answer(0, 2) for " + h, x.answer(0, 2), 260);
            Due.is("answer(1, 0) for " + h, x.answer(1, 0), LEAST);
        }
    }

    private static void unlikeShifts() {
        TrueArms x = new TrueArms();
        x.pair(0, 0, 0, 0);
        x.pair(0, 0, 0, 1);
        Due.is("unlike in y", x.answers(), 0);
        Due.is("no first answer", x.answer(0, 1), LEAST);
        x.shut();
        x.pair(0, 0, 0, 0);
        x.pair(0, 0, 1, 0);
        Due.is("unlike in x", x.answers(), 0);
        x.shut();
        x.pair(5, 5, 1, 1);
        x.pair(5, 5, 1, 1);
        Due.is("the same pair twice", x.answers(), 36);
    }
}
