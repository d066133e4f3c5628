/** The boundary cases of the document's fifth part and of promises 23 to 25, a sentence each. */
final class GoingEdgesTest {
    private static final long LONG_BAD = Long.MIN_VALUE + 2;
    private static final int LEAST = Integer.MIN_VALUE;

    public static void main(String[] args) {
        limitsAre0And35AtFirst();
        everyLimitGoesRound();
        jointsAre0To2();
        lowIs0To35();
        spanIs0To35();
        aLaterLimitStandsAlone();
        placesAreUpTo3000();
        farthestPlaces();
        ofLikeOnesTheLeastA();
        ofLikeOnesTheLeastB();
        ofLikeOnesTheLeastC();
        leastByNumberNotFromLow();
        oneTurnEach();
        nearIsOfTheNearest();
        nearestIsExact();
        posturesDoNotMatter();
        Due.end();
    }

    /** "0, 35 at first": each of the 36 turns of each joint may be. */
    private static void limitsAre0And35AtFirst() {
        for (int joint = 0; joint < 3; joint++) {
            Due.is("turns of joint " + joint + " at first", foundTurns(oneTurns(joint), joint), (1L << 36) - 1);
        }
    }

    /** "TURN a, b, c may be LOW (0 to 35) and up to SPAN (0 to 35) more each (round)" */
    private static void everyLimitGoesRound() {
        for (int joint = 0; joint < 3; joint++) {
            for (int low = 0; low < 36; low++) {
                for (int span = 0; span < 36; span++) {
                    long due = 0;
                    for (int more = 0; more <= span; more++) {
                        due |= 1L << (low + more) % 36;
                    }
                    TrueArms x = oneTurns(joint);
                    Due.is("limit()", x.limit(joint, low, span), 1);
                    Due.is("turns of joint " + joint + " from " + low + " and " + span + " more", foundTurns(x, joint), due);
                }
            }
        }
    }

    private static TrueArms oneTurns(int joint) {
        TrueArms x = new TrueArms();
        for (int k = 0; k < 3; k++) {
            x.length(k, k == joint ? 999 : 1);
            if (k != joint) {
                x.limit(k, 0, 0);
            }
        }
        return x;
    }

    /** As bits those turns that are found for the place to which the one long link would point. */
    private static long foundTurns(TrueArms x, int joint) {
        int unit = joint == 0 ? 10000 : joint == 1 ? 100 : 1;
        long bits = 0;
        for (int h = 0; h < 36; h++) {
            int found = x.nearest(15 * x.turn(h, 0), 15 * x.turn(h, 1));
            Due.is("only this joint turns", found % unit, 0);
            bits |= found == h * unit ? 1L << h : 0;
        }
        return bits;
    }

    /** "LIMITS of a TURN (0 to 2): 1. BAD." */
    private static void jointsAre0To2() {
        TrueArms x = new TrueArms();
        int[] wrong = {LEAST, -1, 3, Integer.MAX_VALUE};
        for (int joint : wrong) {
            Due.is("limit(" + joint + ", 5, 0)", x.limit(joint, 5, 0), -2);
        }
        Due.is("all as at first", x.nearest(300, 0), 0);
        for (int joint = 0; joint < 3; joint++) {
            Due.is("limit(" + joint + ", 5, 0)", x.limit(joint, 5, 0), 1);
        }
        Due.is("each turn is 5", x.nearest(300, 0), 50505);
    }

    private static void lowIs0To35() {
        for (int joint = 0; joint < 3; joint++) {
            TrueArms x = narrow();
            int[] low = {0, 35, -1, 36, LEAST, Integer.MAX_VALUE};
            int[] due = {1, 1, -2, -2, -2, -2};
            int unit = joint == 0 ? 10000 : joint == 1 ? 100 : 1;
            for (int k = 0; k < low.length; k++) {
                Due.is("LOW " + low[k] + " of " + joint, x.limit(joint, low[k], 0), due[k]);
                Due.is("the turn", x.nearest(9, 9), k == 0 ? 0 : 35 * unit);
            }
        }
    }

    private static TrueArms narrow() {
        TrueArms x = new TrueArms();
        for (int joint = 0; joint < 3; joint++) {
            x.limit(joint, 0, 0);
        }
        return x;
    }

    private static void spanIs0To35() {
        for (int joint = 0; joint < 3; joint++) {
            TrueArms x = narrow();
            int[] wrong = {-1, 36, LEAST, Integer.MAX_VALUE};
            for (int span : wrong) {
                Due.is("SPAN " + span + " of " + joint, x.limit(joint, 0, span), -2);
                Due.is("the turns stay", x.nearest(-300, 5), 0);
            }
            Due.is("SPAN 0", x.limit(joint, 7, 0), 1);
            Due.is("SPAN 35", x.limit(joint, 7, 35), 1);
        }
    }

    /** The limits of one joint neither widen nor narrow those of another, nor those that were. */
    private static void aLaterLimitStandsAlone() {
        TrueArms x = narrow();
        x.limit(0, 3, 0);
        x.limit(0, 7, 0);
        Due.is("3 is no more", x.nearest(x.turn(3, 0), x.turn(3, 1)), 70000);
        x.limit(1, 35, 0);
        x.limit(2, 1, 0);
        Due.is("each its own", x.nearest(0, 0), 73501);
    }

    /** "a place x, y (-3000 to 3000, whole)" */
    private static void placesAreUpTo3000() {
        TrueArms x = narrow();
        int[] values = {3000, -3000, 3001, -3001, LEAST, Integer.MAX_VALUE};
        for (int v : values) {
            boolean may = Math.abs((long) v) <= 3000;
            long inX = (19500 - 65L * v) * (19500 - 65L * v);
            long inY = 19500L * 19500 + 65L * v * 65 * v;
            Due.is("nearest(" + v + ", 0)", x.nearest(v, 0), may ? 0 : -2);
            Due.is("nearest(0, " + v + ")", x.nearest(0, v), may ? 0 : -2);
            Due.is("near(" + v + ", 0)", x.near(v, 0), may ? inX : LONG_BAD);
            Due.is("near(0, " + v + ")", x.near(0, v), may ? inY : LONG_BAD);
        }
        Due.is("nearest(3001, 3001)", x.nearest(3001, 3001), -2);
        Due.is("near(-3001, -3001)", x.near(-3001, -3001), LONG_BAD);
    }

    /** The sums of squares pass an int by far. */
    private static void farthestPlaces() {
        int[] ends = {3000, -3000};
        for (int px : ends) {
            for (int py : ends) {
                TrueArms x = narrow();
                x.limit(0, 18, 0);
                for (int k = 0; k < 3; k++) {
                    x.length(k, 999);
                }
                long inX = 65L * (-2997 - px);
                long inY = 65L * -py;
                Due.is("near(" + px + ", " + py + ")", x.near(px, py), inX * inX + inY * inY);
                Due.is("nearest of it", x.nearest(px, py), 180000);
            }
        }
    }

    /** "of like ones the least a, then b, then c" */
    private static void ofLikeOnesTheLeastA() {
        TrueArms x = new TrueArms();
        x.length(0, 1);
        x.length(1, 1);
        x.length(2, 2);
        Due.is("folded together at the middle", x.nearest(0, 0), 18);
        x.limit(0, 5, 3);
        Due.is("the least a that may be", x.nearest(0, 0), 50018);
        x.limit(0, 34, 2);
        Due.is("0 comes before 34", x.nearest(0, 0), 18);
        x.limit(0, 34, 1);
        Due.is("34 before 35", x.nearest(0, 0), 340018);
    }

    /** The second and third link fold onto the first one's end for each b; c is always 18. */
    private static void ofLikeOnesTheLeastB() {
        TrueArms x = new TrueArms();
        x.limit(0, 0, 0);
        x.limit(2, 18, 0);
        Due.is("the least b", x.nearest(100, 0), 18);
        x.limit(1, 3, 30);
        Due.is("the least b that may be", x.nearest(100, 0), 318);
        x.limit(1, 35, 10);
        Due.is("0 comes before 35", x.nearest(100, 0), 18);
        x.limit(1, 34, 1);
        Due.is("34 before 35", x.nearest(100, 0), 3418);
        x.limit(1, 35, 0);
        Due.is("35 alone", x.nearest(100, 0), 3518);
    }

    /** The first and second link fold, and the third goes as far in each way. */
    private static void ofLikeOnesTheLeastC() {
        TrueArms x = new TrueArms();
        x.limit(0, 0, 0);
        x.limit(1, 18, 0);
        for (int low = 0; low < 36; low++) {
            x.limit(2, low, 4);
            int due = low + 4 >= 36 ? 0 : low;
            Due.is("the least c from " + low, x.nearest(0, 0), 1800 + due);
            Due.is("its squares", x.near(0, 0), 6500L * 6500);
        }
    }

    private static void leastByNumberNotFromLow() {
        TrueArms x = new TrueArms();
        for (int joint = 0; joint < 3; joint++) {
            x.limit(joint, 1, 35);
        }
        Due.is("as if from 0", x.nearest(300, 0), 0);
        Due.is("the folded one as well", x.nearest(100, 0), 18);
    }

    private static void oneTurnEach() {
        int[][] turns = {{0, 0, 0}, {35, 35, 35}, {1, 0, 35}, {10, 20, 30}};
        for (int[] t : turns) {
            TrueArms x = new TrueArms();
            for (int joint = 0; joint < 3; joint++) {
                x.limit(joint, t[joint], 0);
            }
            int i = x.posture(t[0], t[1], t[2]);
            long inX = x.hand(i, 0) - 65L * -123;
            long inY = x.hand(i, 1) - 65L * 77;
            Due.is("the only posture", x.nearest(-123, 77), 10000 * t[0] + 100 * t[1] + t[2]);
            Due.is("its squares", x.near(-123, 77), inX * inX + inY * inY);
        }
    }

    /** "Its sum of squares." */
    private static void nearIsOfTheNearest() {
        TrueArms x = new TrueArms();
        x.length(0, 999);
        x.length(1, 3);
        x.length(2, 500);
        x.limit(1, 20, 9);
        int[][] places = {{0, 0}, {1, 1}, {-700, 31}, {1500, -20}, {3000, 3000}, {-3000, 2999}};
        for (int[] p : places) {
            int found = x.nearest(p[0], p[1]);
            int i = x.posture(found / 10000, found / 100 % 100, found % 100);
            long inX = x.hand(i, 0) - 65L * p[0];
            long inY = x.hand(i, 1) - 65L * p[1];
            Due.is("near(" + p[0] + ", " + p[1] + ")", x.near(p[0], p[1]), inX * inX + inY * inY);
        }
    }

    /** All postures are gone through here, in the order of their turns, with arms of the most unlike lengths. */
    private static void nearestIsExact() {
        int[][] arms = {{1, 1, 1}, {999, 999, 999}, {1, 1, 999}, {999, 1, 1}, {1, 999, 1}, {500, 499, 1}, {100, 100, 100}};
        int[][] places = {{0, 0}, {0, 1}, {-1, 0}, {100, 0}, {997, 3}, {-998, -1}, {0, 2997}, {-3000, 3000}, {51, -777}};
        for (int[] lengths : arms) {
            for (int[] p : places) {
                TrueArms x = new TrueArms();
                for (int k = 0; k < 3; k++) {
                    x.length(k, lengths[k]);
                }
                long[] due = slowly(lengths, p[0], p[1]);
                Due.is("nearest(" + p[0] + ", " + p[1] + ")", x.nearest(p[0], p[1]), due[0]);
                Due.is("near(" + p[0] + ", " + p[1] + ")", x.near(p[0], p[1]), due[1]);
            }
        }
    }

    private static long[] slowly(int[] lengths, int px, int py) {
        TrueArms x = new TrueArms();
        int[] c = new int[36];
        int[] s = new int[36];
        for (int h = 0; h < 36; h++) {
            c[h] = x.turn(h, 0);
            s[h] = x.turn(h, 1);
        }
        long[] best = {-1, Long.MAX_VALUE};
        for (int all = 0; all < 46656; all++) {
            int a = all / 1296;
            int b = all / 36 % 36;
            int t = all % 36;
            int second = (a + b) % 36;
            int third = (a + b + t) % 36;
            long inX = lengths[0] * c[a] + lengths[1] * c[second] + lengths[2] * c[third] - 65L * px;
            long inY = lengths[0] * s[a] + lengths[1] * s[second] + lengths[2] * s[third] - 65L * py;
            if (inX * inX + inY * inY < best[1]) {
                best[0] = 10000 * a + 100 * b + t;
                best[1] = inX * inX + inY * inY;
            }
        }
        return best;
    }

    private static void posturesDoNotMatter() {
        TrueArms x = new TrueArms();
        Due.is("nearest without postures", x.nearest(0, 300), 90000);
        for (int i = 0; i < 20; i++) {
            x.posture(18, 0, 0);
        }
        Due.is("nearest with twenty", x.nearest(0, 300), 90000);
        Due.is("none came to them", x.count(0), 20);
        x.clear();
        x.limit(0, 4, 0);
        x.clear();
        Due.is("clear() keeps the limits", x.nearest(0, 300) / 10000, 4);
    }
}
