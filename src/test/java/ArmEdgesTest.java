/** The boundary cases of the document's first part and of promises 1 to 7, a sentence each. */
final class ArmEdgesTest {
    private static final int LEAST = Integer.MIN_VALUE;

    public static void main(String[] args) {
        cOfTheFirstQuarter();
        cOf18LessH();
        cOf18AndH();
        cOf36LessH();
        sIsCOfNineLess();
        headingsAreTakenRound();
        lengthsAre100AtFirst();
        lengthsAre1To999();
        posturesAre20AtMost();
        turnsAre0To35();
        handOfTheFirstAndLastPosture();
        handOfTheLongestAndShortestArm();
        handFollowsTheLengths();
        clearOfNoneAndOfTwenty();
        clearLeavesNoneOut();
        clearChangesNothingElse();
        mendRoundsAHalfUp();
        mendCutsTo1And999();
        mendIsRefusedBelowRank3();
        mendChangesLengthsAlone();
        the512thCallIsAnswered();
        Due.end();
    }

    /** "C of HEADING 0 .. 9 is 65 63 60 56 52 39 33 25 16 0" */
    private static void cOfTheFirstQuarter() {
        int[] due = {65, 63, 60, 56, 52, 39, 33, 25, 16, 0};
        TrueArms x = new TrueArms();
        for (int h = 0; h <= 9; h++) {
            Due.is("C of " + h, x.turn(h, 0), due[h]);
        }
    }

    /** "of 18 less h that of h, turned about (each other sign)" */
    private static void cOf18LessH() {
        TrueArms x = new TrueArms();
        for (int h = 0; h <= 18; h++) {
            Due.is("C of 18 less " + h, x.turn(18 - h, 0), -x.turn(h, 0));
        }
    }

    /** "of 18 and h likewise" */
    private static void cOf18AndH() {
        TrueArms x = new TrueArms();
        for (int h = 0; h <= 17; h++) {
            Due.is("C of 18 and " + h, x.turn(18 + h, 0), -x.turn(h, 0));
        }
    }

    /** "of 36 less h that of h" */
    private static void cOf36LessH() {
        TrueArms x = new TrueArms();
        for (int h = 1; h <= 35; h++) {
            Due.is("C of 36 less " + h, x.turn(36 - h, 0), x.turn(h, 0));
        }
    }

    /** "S of h is C of h less 9": below 9 it goes round. */
    private static void sIsCOfNineLess() {
        TrueArms x = new TrueArms();
        for (int h = 0; h <= 35; h++) {
            Due.is("S of " + h, x.turn(h, 1), x.turn(h >= 9 ? h - 9 : h + 27, 0));
        }
        Due.is("S of 8, the last that goes round", x.turn(8, 1), 63);
        Due.is("S of 9, the first that does not", x.turn(9, 1), 65);
        Due.is("S of 0", x.turn(0, 1), 0);
        Due.is("S of 35", x.turn(35, 1), -16);
    }

    /** "HEADINGS 0 .. 35 are taken round (modulo 36)": the hands of all 46656 postures. */
    private static void headingsAreTakenRound() {
        for (int a = 0; a < 36; a++) {
            for (int b = 0; b < 36; b++) {
                handsOfAllThirds(a, b, 0, 18);
                handsOfAllThirds(a, b, 18, 36);
            }
        }
    }

    private static void handsOfAllThirds(int a, int b, int from, int to) {
        TrueArms x = new TrueArms();
        x.length(0, 1);
        x.length(1, 30);
        x.length(2, 900);
        for (int c = from; c < to; c++) {
            int i = x.posture(a, b, c);
            for (int what = 0; what < 2; what++) {
                int due = x.turn(a, what) + 30 * x.turn((a + b) % 36, what) + 900 * x.turn((a + b + c) % 36, what);
                Due.is("the hand of " + a + ", " + b + ", " + c, x.hand(i, what), due);
            }
        }
    }

    /** "LENGTHS 0 .. 2 (1 to 999; 100 each at first)" */
    private static void lengthsAre100AtFirst() {
        for (int i = 0; i < 3; i++) {
            Due.is("the first length " + i, new TrueArms().length(i, 1), 100);
        }
        TrueArms x = new TrueArms();
        x.posture(0, 0, 0);
        Due.is("all are in the hand", x.hand(0, 0), 3 * 6500);
    }

    private static void lengthsAre1To999() {
        for (int i = 0; i < 3; i++) {
            TrueArms x = new TrueArms();
            Due.is("999 may be", x.length(i, 999), 100);
            Due.is("1000 may not", x.length(i, 1000), -2);
            Due.is("1 may be", x.length(i, 1), 999);
            Due.is("0 may not", x.length(i, 0), -2);
            Due.is("-1 may not", x.length(i, -1), -2);
            Due.is("it is what was allowed last", x.length(i, 50), 1);
            Due.is("the next length is untouched", x.length((i + 1) % 3, 50), 100);
            Due.is("the one after, too", x.length((i + 2) % 3, 50), 100);
        }
    }

    /** "POSTURES, 20 at most"; "A POSTURE more: its number. BAD; FULL." */
    private static void posturesAre20AtMost() {
        TrueArms x = new TrueArms();
        for (int round = 0; round < 2; round++) {
            for (int i = 0; i < 20; i++) {
                Due.is("posture number " + i, x.posture(i, i, i), i);
                Due.is("count(0) then", x.count(0), i + 1);
            }
            Due.is("the twenty-first", x.posture(0, 0, 0), -4);
            Due.is("the twenty-first, a bad one", x.posture(-1, 0, 0), -2);
            Due.is("there are twenty", x.count(0), 20);
            Due.is("clear()", x.clear(), 20);
        }
    }

    /** "TURNS a, b, c (0 to 35)" */
    private static void turnsAre0To35() {
        for (int at = 0; at < 3; at++) {
            TrueArms x = new TrueArms();
            int[] values = {0, 35, -1, 36, LEAST, Integer.MAX_VALUE};
            int[] due = {0, 1, -2, -2, -2, -2};
            for (int k = 0; k < values.length; k++) {
                int[] t = {7, 7, 7};
                t[at] = values[k];
                Due.is("turn " + values[k] + " at " + at, x.posture(t[0], t[1], t[2]), due[k]);
            }
            Due.is("two stand", x.count(0), 2);
        }
    }

    private static void handOfTheFirstAndLastPosture() {
        TrueArms x = new TrueArms();
        Due.is("hand(0, 0) of none", x.hand(0, 0), LEAST);
        for (int i = 0; i < 20; i++) {
            x.posture(i, 0, 0);
            Due.is("the last one's hand", x.hand(i, 0), 300 * x.turn(i, 0));
            Due.is("the next one's", x.hand(i + 1, 0), LEAST);
        }
        Due.is("the first one's, still", x.hand(0, 0), 19500);
        x.clear();
        Due.is("hand(0, 0) after clear()", x.hand(0, 0), LEAST);
    }

    private static void handOfTheLongestAndShortestArm() {
        TrueArms x = new TrueArms();
        int[] heads = {0, 9, 18, 27};
        for (int h : heads) {
            x.posture(h, 0, 0);
        }
        int[] lengths = {999, 1};
        for (int v : lengths) {
            for (int i = 0; i < 3; i++) {
                x.length(i, v);
            }
            int far = 3 * 65 * v;
            int[] dueX = {far, 0, -far, 0};
            int[] dueY = {0, far, 0, -far};
            for (int i = 0; i < 4; i++) {
                Due.is("X of " + heads[i] + " with " + v, x.hand(i, 0), dueX[i]);
                Due.is("Y of " + heads[i] + " with " + v, x.hand(i, 1), dueY[i]);
            }
        }
    }

    private static void handFollowsTheLengths() {
        TrueArms x = new TrueArms();
        x.posture(0, 9, 9);
        Due.is("X at first", x.hand(0, 0), 0);
        x.length(0, 999);
        Due.is("X with a longer first link", x.hand(0, 0), 899 * 65);
        x.length(1, 1);
        Due.is("Y with a shorter second one", x.hand(0, 1), 65);
        x.length(2, 998);
        Due.is("X with a longer third one", x.hand(0, 0), 65);
    }

    /** "No POSTURES (none LEFT OUT): how many there were." */
    private static void clearOfNoneAndOfTwenty() {
        TrueArms x = new TrueArms();
        Due.is("clear() of none", x.clear(), 0);
        x.posture(0, 0, 0);
        Due.is("clear() of one", x.clear(), 1);
        Due.is("clear() again", x.clear(), 0);
        for (int i = 0; i < 20; i++) {
            x.posture(0, 0, 0);
        }
        Due.is("clear() of twenty", x.clear(), 20);
        Due.is("the next number", x.posture(1, 1, 1), 0);
    }

    private static void clearLeavesNoneOut() {
        TrueArms x = new TrueArms();
        x.sheet(0, 0, 40);
        for (int i = 0; i < 20; i++) {
            x.posture(0, 0, 0);
            x.leave(i, true);
        }
        Due.is("twenty are left out", x.count(1), 20);
        Due.is("none is used", x.used(), 0);
        x.clear();
        Due.is("of none none is left out", x.count(1), 0);
        for (int i = 0; i < 20; i++) {
            x.posture(0, 0, 0);
        }
        Due.is("of twenty new ones neither", x.count(1), 0);
        Due.is("twelve are used", x.used(), 12);
    }

    /** The sheets with the measures, the lengths, the limits and the pairs stay: with the postures all is as it was. */
    private static void clearChangesNothingElse() {
        Twins.keeps(Pasts.FULL, "clear() and all postures again", x -> {
            int were = x.clear();
            for (int i = 0; i < 20; i++) {
                x.posture(i, 2 * i % 36, 5 * i % 36);
            }
            x.leave(2, true);
            x.leave(19, true);
            return were;
        }, 20);
    }

    /** "by 100, rounded to the nearest (a half up)": of all four postures 1 is a quarter, of twelve a twelfth. */
    private static void mendRoundsAHalfUp() {
        for (int more = -8; more <= 8; more++) {
            TrueArms x = Straight.arms(100, 100, 100, more);
            x.mend();
            Due.is("a length of 100 and " + more + " quarters", x.length(2, 1), Math.floorDiv(400 + more + 2, 4));
        }
        for (int more = -18; more <= 18; more++) {
            TrueArms x = Straight.arms(130, 130, 130, 0);
            Straight.stand(x, 9, 130, 130, 130);
            Straight.stand(x, 18, 130, 130, 130);
            x.put(0, 2, 0, x.get(0, 2, 0) + more);
            x.mend();
            Due.is("a length of 130 and " + more + " twelfths", x.length(0, 1), Math.floorDiv(130 * 12 + more + 6, 12));
        }
    }

    /** "cut to 1 .. 999" */
    private static void mendCutsTo1And999() {
        int[] lengths = {-3332, -1000, -1, 0, 1, 2, 998, 999, 1000, 1001, 3332};
        for (int v : lengths) {
            for (int more = -3; more <= 3; more++) {
                TrueArms x = Straight.arms(v, v, v, more);
                Due.is("all four are used", x.used(), 4);
                x.mend();
                int due = Math.min(999, Math.max(1, Math.floorDiv(4 * v + more + 2, 4)));
                Due.is("a length of " + v + " and " + more + " quarters", x.length(1, 5), due);
            }
        }
    }

    /** "NOT: RANK is below 3": of rank 0, 1 and 2 the lengths stay. */
    private static void mendIsRefusedBelowRank3() {
        int[][] turns = {{5, 0, 0}, {7, 0, 18}, {7, 18, 0}};
        TrueArms x = new TrueArms();
        x.sheet(0, 0, 100);
        for (int rank = 0; rank < 3; rank++) {
            Due.is("the rank", x.rank(), rank);
            Due.is("mend() of rank " + rank, x.mend(), -3);
            for (int i = 0; i < 3; i++) {
                Due.is("length " + i + " of rank " + rank, x.length(i, 100), 100);
            }
            x.posture(turns[rank][0], turns[rank][1], turns[rank][2]);
        }
        Due.is("mend() of rank 3", x.mend(), 1);
        Due.is("all measures are 0, so each length is cut to 1", x.length(0, 100), 1);
    }

    private static void mendChangesLengthsAlone() {
        Twins.keeps(Pasts.FULL, "mend() and the lengths as they were", x -> {
            int mended = x.mend();
            x.length(0, 65);
            x.length(1, 130);
            x.length(2, 260);
            return mended;
        }, 1);
    }

    /** "An object is used for at most 512 calls after it has been made" */
    private static void the512thCallIsAnswered() {
        TrueArms x = new TrueArms();
        for (int call = 1; call <= 511; call++) {
            x.length(call % 3, 1 + call);
        }
        Due.is("the 512th call", x.length(0, 5), 511);
        TrueArms y = new TrueArms();
        for (int call = 1; call <= 511; call++) {
            int due = call <= 20 ? call - 1 : -4;
            Due.is("posture as call " + call, y.posture(0, 0, 0), due);
        }
        Due.is("clear() as the 512th call", y.clear(), 20);
    }
}
