/** Promises 1 to 7. */
final class ArmTest {
    private static final int LEAST = Integer.MIN_VALUE;

    public static void main(String[] args) {
        newObject();
        turns();
        lengths();
        postures();
        clearing();
        hands();
        mending();
        mendingRounds();
        mendingCuts();
        Due.end();
    }

    private static void newObject() {
        TrueArms x = new TrueArms();
        int[] counts = {0, 0, 0, 0, 4, 0};
        for (int what = 0; what < counts.length; what++) {
            Due.is("new: count(" + what + ")", x.count(what), counts[what]);
        }
        for (int i = 0; i < 3; i++) {
            Due.is("new: length(" + i + ", 100)", x.length(i, 100), 100);
        }
        Due.is("new: used()", x.used(), 0);
        Due.is("new: rank()", x.rank(), 0);
        Due.is("new: worst()", x.worst(), TrueArms.NONE);
        Due.is("new: answers()", x.answers(), 36);
        Due.is("new: nearest(300, 0)", x.nearest(300, 0), 0);
    }

    private static void turns() {
        TrueArms x = new TrueArms();
        int[] c = {65, 63, 60, 56, 52, 39, 33, 25, 16, 0, -16, -25, -33, -39, -52, -56, -60, -63,
            -65, -63, -60, -56, -52, -39, -33, -25, -16, 0, 16, 25, 33, 39, 52, 56, 60, 63};
        for (int h = 0; h < 36; h++) {
            Due.is("turn(" + h + ", 0)", x.turn(h, 0), c[h]);
            Due.is("turn(" + h + ", 1)", x.turn(h, 1), c[(h + 27) % 36]);
        }
        Due.is("turn(-1, 0)", x.turn(-1, 0), -1000);
        Due.is("turn(36, 1)", x.turn(36, 1), -1000);
        Due.is("turn(0, -1)", x.turn(0, -1), -1000);
        Due.is("turn(0, 2)", x.turn(0, 2), -1000);
    }

    private static void lengths() {
        TrueArms x = new TrueArms();
        Due.is("length(0, 1)", x.length(0, 1), 100);
        Due.is("length(0, 999)", x.length(0, 999), 1);
        Due.is("length(1, 7)", x.length(1, 7), 100);
        Due.is("length(2, 8)", x.length(2, 8), 100);
        Due.is("length(0, 1000)", x.length(0, 1000), -2);
        Due.is("length(0, 0)", x.length(0, 0), -2);
        Due.is("length(-1, 5)", x.length(-1, 5), -2);
        Due.is("length(3, 5)", x.length(3, 5), -2);
        Due.is("length(0, 5) after refusals", x.length(0, 5), 999);
        Due.is("length(1, 5)", x.length(1, 5), 7);
        Due.is("length(2, 5)", x.length(2, 5), 8);
    }

    private static void postures() {
        TrueArms x = new TrueArms();
        for (int i = 0; i < 20; i++) {
            Due.is("posture " + i, x.posture(i, 35, 0), i);
        }
        Due.is("posture 20", x.posture(0, 0, 0), -4);
        Due.is("bad before full", x.posture(0, 0, 36), -2);
        Due.is("count(0)", x.count(0), 20);
        x.clear();
        Due.is("posture(-1, 0, 0)", x.posture(-1, 0, 0), -2);
        Due.is("posture(36, 0, 0)", x.posture(36, 0, 0), -2);
        Due.is("posture(0, -1, 0)", x.posture(0, -1, 0), -2);
        Due.is("posture(0, 36, 0)", x.posture(0, 36, 0), -2);
        Due.is("posture(0, 0, -1)", x.posture(0, 0, -1), -2);
        Due.is("count(0) after refusals", x.count(0), 0);
        Due.is("posture(35, 35, 35)", x.posture(35, 35, 35), 0);
    }

    private static void clearing() {
        TrueArms x = new TrueArms();
        Due.is("clear() of none", x.clear(), 0);
        x.posture(1, 2, 3);
        x.posture(4, 5, 6);
        x.leave(0, true);
        x.leave(1, true);
        Due.is("clear()", x.clear(), 2);
        Due.is("count(0)", x.count(0), 0);
        x.posture(1, 2, 3);
        x.posture(4, 5, 6);
        Due.is("none is left out any more", x.count(1), 0);
    }

    private static void hands() {
        TrueArms x = new TrueArms();
        x.length(0, 1);
        x.length(1, 10);
        x.length(2, 999);
        x.posture(1, 2, 35);
        Due.is("hand(0, 0)", x.hand(0, 0), 63 + 560 + 999 * 60);
        Due.is("hand(0, 1)", x.hand(0, 1), 16 + 330 + 999 * 25);
        x.posture(35, 35, 35);
        Due.is("hand(1, 0)", x.hand(1, 0), 63 + 600 + 999 * 56);
        Due.is("hand(1, 1)", x.hand(1, 1), -16 - 250 - 999 * 33);
        Due.is("hand(2, 0)", x.hand(2, 0), LEAST);
        Due.is("hand(-1, 0)", x.hand(-1, 0), LEAST);
        Due.is("hand(0, -1)", x.hand(0, -1), LEAST);
        Due.is("hand(0, 2)", x.hand(0, 2), LEAST);
    }

    private static void mending() {
        TrueArms x = Straight.arms(700, 20, 3, 0);
        Due.is("mend()", x.mend(), 1);
        Due.is("mended length 0", x.length(0, 5), 700);
        Due.is("mended length 1", x.length(1, 5), 20);
        Due.is("mended length 2", x.length(2, 5), 3);
        x.leave(0, true);
        x.leave(1, true);
        Due.is("mend() of rank 2", x.mend(), -3);
        Due.is("length 0 as it was", x.length(0, 5), 5);
        Due.is("mend() of nothing", new TrueArms().mend(), -3);
    }

    /** Each 1 more of the first measure makes each length a quarter more. */
    private static void mendingRounds() {
        int[] more = {1, 2, 3, -1, -2, -3};
        int[] due = {100, 101, 101, 100, 100, 99};
        for (int t = 0; t < more.length; t++) {
            TrueArms x = Straight.arms(100, 100, 100, more[t]);
            Due.is("fit(1) of " + more[t] + " more", x.fit(1), 10000 + 25 * more[t]);
            x.mend();
            Due.is("mended with " + more[t] + " more", x.length(1, 9), due[t]);
        }
        TrueArms x = Straight.arms(65, 130, 195, 0);
        Straight.stand(x, 1, 65, 130, 195);
        x.put(0, 2, 9, x.get(0, 2, 9) + 16);
        Due.is("16 by 32 and a half more", x.fit(1), 13049);
        x.mend();
        Due.is("not yet a half", x.length(1, 9), 130);
    }

    private static void mendingCuts() {
        TrueArms x = Straight.arms(1500, -40, 999, 0);
        x.mend();
        Due.is("cut from above", x.length(0, 9), 999);
        Due.is("cut from below", x.length(1, 9), 1);
        Due.is("not cut", x.length(2, 9), 999);
        TrueArms y = Straight.arms(1000, 0, 1, 0);
        y.mend();
        Due.is("1000 is cut", y.length(0, 9), 999);
        Due.is("0 is cut", y.length(1, 9), 1);
        Due.is("1 is not cut", y.length(2, 9), 1);
    }
}
