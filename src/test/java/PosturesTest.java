/** Promises 17 and 18. */
final class PosturesTest {
    private static final long BAD = Long.MIN_VALUE + 2;

    public static void main(String[] args) {
        bestOfStraightOnes();
        bestRefusals();
        onlyTheFirstTen();
        weights();
        Due.end();
    }

    private static void bestOfStraightOnes() {
        TrueArms x = Straight.arms(100, 100, 100, 0);
        x.posture(0, 0, 0);
        Due.is("best(1)", x.best(1), -1);
        Due.is("best(2)", x.best(2), -1);
        Due.is("best(3): all are alike", x.best(3), 7);
        Due.is("best(4): the fifth is the first once more", x.best(4), 15);
        Due.is("weight(15)", x.weight(15), 16900L * 16900 * 16900);
        Due.is("weight(30)", x.weight(30), 16900L * 16900 * 16900);
        Due.is("weight(7)", x.weight(7), 75418890625L * 16);
        x.leave(0, true);
        x.lose(0);
        Due.is("measures and leaving do not matter", x.best(4), 15);
        Due.is("nor for weights", x.weight(15), 16900L * 16900 * 16900);
    }

    private static void bestRefusals() {
        TrueArms x = new TrueArms();
        Due.is("best(0)", x.best(0), -2);
        Due.is("best(5)", x.best(5), -2);
        Due.is("best(-1)", x.best(-1), -2);
        Due.is("best(1) of none", x.best(1), -3);
        x.posture(0, 9, 0);
        x.posture(0, 0, 9);
        x.posture(0, 9, 0);
        Due.is("best(4) of three", x.best(4), -3);
        Due.is("best(3) of three", x.best(3), 7);
        Due.is("best(2)", x.best(2), 3);
    }

    private static void onlyTheFirstTen() {
        TrueArms x = new TrueArms();
        for (int i = 0; i < 10; i++) {
            x.posture(0, 0, 0);
        }
        Straight.stand(x, 0, 1, 1, 1);
        Due.is("best(4)", x.best(4), -1);
        Due.is("weight(1023)", x.weight(1023), 0);
        Due.is("weight(1024)", x.weight(1024), BAD);
        TrueArms y = new TrueArms();
        for (int i = 0; i < 6; i++) {
            y.posture(0, 0, 0);
        }
        Straight.stand(y, 0, 1, 1, 1);
        Due.is("the last four of ten, the first for its like", y.best(4), 1 + 128 + 256 + 512);
    }

    private static void weights() {
        TrueArms x = new TrueArms();
        Due.is("weight(0) of none", x.weight(0), 0);
        Due.is("weight(1) of none", x.weight(1), BAD);
        x.posture(0, 9, 0);
        x.posture(0, 0, 9);
        Due.is("weight(1)", x.weight(1), 0);
        Due.is("weight(3): 2 1 0, 1 2 1, 0 1 2 times 4225", x.weight(3), 4L * 4225 * 4225 * 4225);
        Due.is("weight(4)", x.weight(4), BAD);
        Due.is("weight(5)", x.weight(5), BAD);
        Due.is("weight(-1)", x.weight(-1), BAD);
        Due.is("weight(least)", x.weight(Integer.MIN_VALUE), BAD);
    }
}
