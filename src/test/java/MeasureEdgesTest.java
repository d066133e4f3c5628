import java.math.BigInteger;

/** The boundary cases of the document's second part and of promises 8 to 16, a sentence each. */
final class MeasureEdgesTest {
    private static final long LONG_BAD = Long.MIN_VALUE + 2, LONG_NOT = Long.MIN_VALUE + 3;
    private static final int NO_MEASURE = -10001;

    public static void main(String[] args) {
        measuresAreUpTo9999();
        bothItemsAreThere();
        itemsOfTheLastPosture();
        onlySheet0Tells();
        measuresOfEachForm();
        measureOfALostSheetIsNoFinding();
        leavingAndTakingAgain();
        leavingIsByNumber();
        usedAreTheFirst12();
        usedSkipsGaps();
        usedFollowsTheSheet();
        tableOfNone();
        tableOfTwelveAtMost();
        rankOfEachSize();
        toldOfEachRank();
        toldOfEveryPostureAlone();
        fitRoundsDown();
        fitOfTheNearestToRank2();
        fitOfTheFarthestMeasures();
        fitNotBelowRank3();
        missOfTheFarthest();
        missIsTheGreaterAmount();
        missOfOneLeftOut();
        worstOfNone();
        worstOfLikeOnes();
        worstIsOfThoseUsed();
        Due.end();
    }

    private static TrueArms standing(int postures, int form, int items) {
        TrueArms x = new TrueArms();
        for (int i = 0; i < postures; i++) {
            x.posture(0, 0, 0);
        }
        x.sheet(0, form, items);
        return x;
    }

    /** "x and y (-9999 to 9999, whole)" */
    private static void measuresAreUpTo9999() {
        int[] values = {9999, -9999, 10000, -10000, 10001, -10001, Integer.MAX_VALUE, Integer.MIN_VALUE};
        for (int at = 0; at < 2; at++) {
            for (int v : values) {
                TrueArms x = standing(1, 2, 2);
                x.put(0, 2, at, v);
                boolean such = Math.abs((long) v) <= 9999;
                Due.is("x with " + v + " at " + at, x.measure(0, 0), such ? (at == 0 ? v : 0) : NO_MEASURE);
                Due.is("y with " + v + " at " + at, x.measure(0, 1), such ? (at == 1 ? v : 0) : NO_MEASURE);
                Due.is("used() with " + v, x.used(), such ? 1 : 0);
                Due.is("miss(0) without a measure", Math.min(0, x.miss(0)), such ? 0 : -3);
                x.put(0, 2, at, 1);
                Due.is("such again", x.used(), 1);
            }
        }
    }

    /** "if both are there and such; else it has none" */
    private static void bothItemsAreThere() {
        for (int items = 0; items <= 5; items++) {
            TrueArms x = standing(3, 1, items);
            for (int i = 0; i < 3; i++) {
                int due = items >= 2 * i + 2 ? 0 : NO_MEASURE;
                Due.is("x of " + i + " of " + items + " items", x.measure(i, 0), due);
                Due.is("y of " + i + " of " + items + " items", x.measure(i, 1), due);
            }
            Due.is("used() of " + items + " items", x.used(), items / 2);
        }
    }

    private static void itemsOfTheLastPosture() {
        TrueArms x = standing(20, 2, 40);
        x.put(0, 2, 38, 380);
        x.put(0, 2, 39, -390);
        Due.is("x of posture 19", x.measure(19, 0), 380);
        Due.is("y of posture 19", x.measure(19, 1), -390);
        Due.is("posture 20 is none", x.measure(20, 0), -10000);
        x.sheet(0, 2, 39);
        Due.is("item 39 is not there", x.measure(19, 0), NO_MEASURE);
        Due.is("the one before is measured", x.measure(18, 0), 0);
    }

    /** "of SHEET 0" */
    private static void onlySheet0Tells() {
        TrueArms x = new TrueArms();
        x.posture(0, 0, 0);
        for (int s = 1; s < 4; s++) {
            x.sheet(s, 2, 100);
        }
        Due.is("the other sheets tell nothing", x.measure(0, 0), NO_MEASURE);
        Due.is("nothing is used", x.used(), 0);
        x.sheet(0, 2, 2);
        Due.is("sheet 0 does", x.measure(0, 0), 0);
    }

    private static void measuresOfEachForm() {
        int[] low = {-128, -9999, -9999};
        int[] high = {127, 9999, 9999};
        for (int form = 0; form < 3; form++) {
            TrueArms x = standing(1, form, 2);
            x.put(0, form, 0, high[form]);
            x.put(0, form, 1, low[form]);
            Due.is("the greatest x of form " + form, x.measure(0, 0), high[form]);
            Due.is("the least y of form " + form, x.measure(0, 1), low[form]);
        }
        TrueArms x = standing(1, 1, 2);
        x.put(0, 1, 0, 10000);
        Due.is("a short of 10000", x.measure(0, 1), NO_MEASURE);
        x.put(0, 1, 0, 65536 + 9999);
        Due.is("a short takes the lowest bits", x.measure(0, 0), 9999);
        TrueArms y = standing(1, 0, 2);
        y.put(0, 0, 0, 10000);
        Due.is("so does a byte", y.measure(0, 0), 16);
    }

    private static void measureOfALostSheetIsNoFinding() {
        TrueArms x = new TrueArms();
        x.posture(0, 0, 0);
        Due.is("measure(0, 0)", x.measure(0, 0), NO_MEASURE);
        Due.is("miss(0)", x.miss(0), -3);
        Due.is("used()", x.used(), 0);
        Due.is("worst()", x.worst(), -1);
        Due.is("count(5)", x.count(5), 0);
    }

    /** "A POSTURE is LEFT OUT, or not: 1." */
    private static void leavingAndTakingAgain() {
        TrueArms x = standing(20, 0, 40);
        int[] ends = {0, 19};
        for (int i : ends) {
            Due.is("leave(" + i + ", false), though it was not", x.leave(i, false), 1);
            Due.is("none is left out", x.count(1), 0);
            Due.is("leave(" + i + ", true)", x.leave(i, true), 1);
            Due.is("one is", x.count(1), 1);
            Due.is("leave(" + i + ", true), though it was", x.leave(i, true), 1);
            Due.is("still one", x.count(1), 1);
            Due.is("leave(" + i + ", false)", x.leave(i, false), 1);
            Due.is("none again", x.count(1), 0);
        }
        Due.is("leave(20, true)", x.leave(20, true), -2);
        Due.is("leave(-1, true)", x.leave(-1, true), -2);
        Due.is("leave(0, true) of none", new TrueArms().leave(0, true), -2);
        Due.is("none is left out by refusals", x.count(1), 0);
    }

    /** One without a measure may be left out, too. */
    private static void leavingIsByNumber() {
        TrueArms x = standing(2, 0, 2);
        x.leave(1, true);
        x.sheet(0, 0, 4);
        Due.is("the second is left out, though it was not measured then", x.used(), 1);
        x.leave(1, false);
        Due.is("now both", x.used(), 2);
    }

    /** "USED are the first 12 POSTURES by numbers" */
    private static void usedAreTheFirst12() {
        int[] postures = {0, 1, 11, 12, 13, 20};
        for (int n : postures) {
            TrueArms x = standing(n, 0, 40);
            Due.is("used() of " + n, x.used(), Math.min(n, 12));
            Due.is("table(2, 1) of " + n, x.table(2, 1), 4225L * Math.min(n, 12));
        }
    }

    /** "that have a MEASURE and were not LEFT OUT" */
    private static void usedSkipsGaps() {
        TrueArms x = standing(20, 2, 40);
        for (int i = 0; i < 20; i++) {
            x.put(0, 2, 2 * i, 300 - i);
        }
        Due.is("the twelfth is the worst", x.worst(), 11);
        x.put(0, 2, 1, 10000);
        Due.is("without a measure of the first the thirteenth is", x.worst(), 12);
        x.leave(5, true);
        Due.is("and without the sixth the next", x.worst(), 13);
        Due.is("twelve are used", x.used(), 12);
        for (int i = 6; i < 12; i++) {
            x.leave(i, true);
        }
        Due.is("with seven left out and one not measured twelve are used", x.used(), 12);
        Due.is("the last is the worst", x.worst(), 19);
        x.leave(12, true);
        Due.is("then eleven", x.used(), 11);
        x.put(0, 2, 1, 0);
        Due.is("the first is measured again", x.used(), 12);
    }

    private static void usedFollowsTheSheet() {
        TrueArms x = standing(20, 2, 40);
        Due.is("twelve", x.used(), 12);
        x.sheet(0, 2, 24);
        Due.is("twelve of 24 items", x.used(), 12);
        x.sheet(0, 2, 23);
        Due.is("eleven of 23 items", x.used(), 11);
        x.sheet(0, 2, 0);
        Due.is("none of no items", x.used(), 0);
        x.sheet(0, 2, 40);
        x.lose(0);
        Due.is("none of a lost sheet", x.used(), 0);
    }

    private static void tableOfNone() {
        TrueArms x = new TrueArms();
        for (int i = 0; i < 3; i++) {
            for (int j = 0; j < 3; j++) {
                Due.is("table(" + i + ", " + j + ") of none", x.table(i, j), 0);
            }
        }
        Due.is("table(2, 3)", x.table(2, 3), LONG_BAD);
        Due.is("table(3, 2)", x.table(3, 2), LONG_BAD);
        Due.is("table(-1, 2)", x.table(-1, 2), LONG_BAD);
        Due.is("table(2, -1)", x.table(2, -1), LONG_BAD);
    }

    private static void tableOfTwelveAtMost() {
        TrueArms x = new TrueArms();
        x.sheet(0, 0, 40);
        for (int i = 0; i < 20; i++) {
            x.posture(i, 18, 18);
        }
        for (int i = 0; i < 3; i++) {
            for (int j = 0; j < 3; j++) {
                int sign = (i == 1) == (j == 1) ? 1 : -1;
                Due.is("table(" + i + ", " + j + ")", x.table(i, j), sign * 12L * 4225);
            }
        }
    }

    private static void rankOfEachSize() {
        int[][] turns = {{0, 0, 0}, {0, 18, 0}, {0, 0, 18}, {0, 18, 18}};
        TrueArms x = new TrueArms();
        x.sheet(0, 0, 8);
        for (int i = 0; i < 4; i++) {
            Due.is("rank() of " + i + " along one line", x.rank(), i);
            x.posture(turns[i][0], turns[i][1], turns[i][2]);
        }
        Due.is("rank() is 3 at most", x.rank(), 3);
        for (int i = 3; i >= 0; i--) {
            x.leave(i, true);
            Due.is("rank() without the last " + (4 - i), x.rank(), Math.min(3, i));
        }
        TrueArms y = new TrueArms();
        y.sheet(0, 0, 4);
        y.posture(3, 1, 1);
        Due.is("one posture has rank 2 at most", y.rank(), 2);
        y.posture(3, 1, 1);
        Due.is("the same once more, too", y.rank(), 2);
    }

    /** "Whether a LENGTH is TOLD: 1, 0. BAD." */
    private static void toldOfEachRank() {
        int[][] due = {{0, 0, 0}, {0, 0, 0}, {0, 0, 1}, {1, 1, 1}};
        int[][] turns = {{0, 0, 0}, {0, 0, 18}, {0, 18, 0}};
        TrueArms x = new TrueArms();
        x.sheet(0, 0, 6);
        for (int rank = 0; rank <= 3; rank++) {
            for (int i = 0; i < 3; i++) {
                Due.is("told(" + i + ") of rank " + rank, x.told(i), due[rank][i]);
            }
            Due.is("told(-1) of rank " + rank, x.told(-1), -2);
            Due.is("told(3) of rank " + rank, x.told(3), -2);
            if (rank < 3) {
                x.posture(turns[rank][0], turns[rank][1], turns[rank][2]);
            }
        }
    }

    /** Of one posture a length is told just if it stands across the other two, and these along one line. */
    private static void toldOfEveryPostureAlone() {
        TrueArms names = new TrueArms();
        int[] c = new int[36];
        int[] s = new int[36];
        for (int h = 0; h < 36; h++) {
            c[h] = names.turn(h, 0);
            s[h] = names.turn(h, 1);
        }
        for (int turns = 0; turns < 46656; turns++) {
            TrueArms x = new TrueArms();
            x.sheet(0, 0, 2);
            x.posture(turns / 1296, turns / 36 % 36, turns % 36);
            int first = turns / 1296;
            int second = (first + turns / 36) % 36;
            int third = (second + turns) % 36;
            boolean[] along = {c[second] * s[third] == s[second] * c[third], c[first] * s[third] == s[first] * c[third],
                c[first] * s[second] == s[first] * c[second]};
            boolean allAlong = along[0] && along[1];
            Due.is("rank() of turns " + turns, x.rank(), allAlong ? 1 : 2);
            for (int i = 0; i < 3; i++) {
                Due.is("told(" + i + ") of turns " + turns, x.told(i), along[i] && !allAlong ? 1 : 0);
            }
        }
    }

    /** "in hundredths, rounded down (one division)": also below 0. Twelve of one way make twelfths. */
    private static void fitRoundsDown() {
        int[] lengths = {130, 0, -130};
        for (int v : lengths) {
            for (int more = -13; more <= 13; more++) {
                TrueArms x = Straight.arms(v, v, v, 0);
                Straight.stand(x, 9, v, v, v);
                Straight.stand(x, 27, v, v, v);
                x.put(0, 2, 0, x.get(0, 2, 0) + more);
                Due.is("fit(1) of " + v + " and " + more + " twelfths", x.fit(1), Math.floorDiv(100 * (12 * v + more), 12));
            }
        }
    }

    /** The least D above 0 that two postures can have is 270400: there small misses make the longest fits. */
    private static void fitOfTheNearestToRank2() {
        int[] ends = {9999, -9999};
        int[] near = nearlyStraight();
        for (int turn = 0; turn < 36; turn++) {
            for (int bits = 0; bits < 16; bits++) {
                TrueArms x = new TrueArms();
                x.sheet(0, 2, 4);
                x.posture(turn, 0, 0);
                x.posture(near[0], near[1], near[2]);
                for (int item = 0; item < 4; item++) {
                    x.put(0, 2, item, ends[bits >> item & 1]);
                }
                Due.is("the least D", x.weight(3), 270400);
                againstBigNumbers(x, 2);
            }
        }
    }

    private static int[] nearlyStraight() {
        for (int a = 0; a < 36; a++) {
            for (int b = 0; b < 36; b++) {
                for (int c = 0; c < 36; c++) {
                    TrueArms x = new TrueArms();
                    x.posture(0, 0, 0);
                    x.posture(a, b, c);
                    if (x.weight(3) == 270400) {
                        return new int[] {a, b, c};
                    }
                }
            }
        }
        Due.holds("there is a set of the least D", false);
        return new int[] {0, 0, 0};
    }

    private static void fitOfTheFarthestMeasures() {
        for (int seed = 0; seed < 200; seed++) {
            TrueArms x = new TrueArms();
            x.sheet(0, 2, 40);
            int postures = 3 + seed % 10;
            for (int i = 0; i < postures; i++) {
                x.posture((seed + 7 * i) % 36, (seed * 5 + 11 * i) % 36, (seed * 3 + 13 * i * i) % 36);
                x.put(0, 2, 2 * i, (seed >> i % 8 & 1) == 0 ? 9999 : -9999);
                x.put(0, 2, 2 * i + 1, (seed + i) % 3 == 0 ? -9999 : 9999);
            }
            againstBigNumbers(x, postures);
        }
    }

    /** All postures are used. The table is the object's own; what stands right of it is summed up here. */
    private static void againstBigNumbers(TrueArms x, int postures) {
        BigInteger[][] g = new BigInteger[3][4];
        for (int i = 0; i < 3; i++) {
            for (int j = 0; j < 3; j++) {
                g[i][j] = BigInteger.valueOf(x.table(i, j));
            }
            g[i][3] = BigInteger.valueOf(rightOf(x, i, postures));
        }
        BigInteger d = determinant(g, 0, 1, 2);
        if (d.signum() == 0) {
            Due.is("fit(0) of D 0", x.fit(0), LONG_NOT);
            return;
        }
        int[][] columns = {{3, 1, 2}, {0, 3, 2}, {0, 1, 3}};
        for (int i = 0; i < 3; i++) {
            BigInteger of = determinant(g, columns[i][0], columns[i][1], columns[i][2]).multiply(BigInteger.valueOf(6500));
            BigInteger[] parts = of.divideAndRemainder(d);
            long due = parts[0].longValueExact() - (parts[1].signum() < 0 ? 1 : 0);
            Due.is("fit(" + i + ")", x.fit(i), due);
        }
    }

    /** A length alone, with the others as short as may be, tells what it has in each equation. */
    private static long rightOf(TrueArms x, int link, int postures) {
        int[] were = new int[3];
        long sum = 0;
        for (int k = 0; k < 3; k++) {
            were[k] = x.length(k, 1);
        }
        long[] before = hands(x, postures);
        x.length(link, 2);
        long[] after = hands(x, postures);
        for (int at = 0; at < 2 * postures; at++) {
            sum += (after[at] - before[at]) * x.get(0, 2, at);
        }
        for (int k = 0; k < 3; k++) {
            x.length(k, were[k]);
        }
        return sum;
    }

    private static long[] hands(TrueArms x, int postures) {
        long[] all = new long[2 * postures];
        for (int i = 0; i < postures; i++) {
            all[2 * i] = x.hand(i, 0);
            all[2 * i + 1] = x.hand(i, 1);
        }
        return all;
    }

    private static BigInteger determinant(BigInteger[][] g, int a, int b, int c) {
        return g[0][a].multiply(g[1][b].multiply(g[2][c]).subtract(g[1][c].multiply(g[2][b])))
            .subtract(g[0][b].multiply(g[1][a].multiply(g[2][c]).subtract(g[1][c].multiply(g[2][a]))))
            .add(g[0][c].multiply(g[1][a].multiply(g[2][b]).subtract(g[1][b].multiply(g[2][a]))));
    }

    /** "BAD; NOT: RANK is below 3." */
    private static void fitNotBelowRank3() {
        int[][] turns = {{0, 0, 0}, {0, 0, 18}, {0, 18, 0}};
        TrueArms x = new TrueArms();
        x.sheet(0, 0, 6);
        for (int rank = 0; rank <= 3; rank++) {
            for (int i = 0; i < 3; i++) {
                Due.is("fit(" + i + ") of rank " + rank, x.fit(i), rank < 3 ? LONG_NOT : 0);
            }
            Due.is("fit(-1) of rank " + rank, x.fit(-1), LONG_BAD);
            Due.is("fit(3) of rank " + rank, x.fit(3), LONG_BAD);
            if (rank < 3) {
                x.posture(turns[rank][0], turns[rank][1], turns[rank][2]);
            }
        }
    }

    private static void missOfTheFarthest() {
        TrueArms x = new TrueArms();
        int[] heads = {0, 9, 18, 27};
        x.sheet(0, 2, 8);
        for (int i = 0; i < 3; i++) {
            x.length(i, 999);
        }
        for (int i = 0; i < 4; i++) {
            x.posture(heads[i], 0, 0);
            x.put(0, 2, 2 * i, i == 0 ? -9999 : i == 2 ? 9999 : 0);
            x.put(0, 2, 2 * i + 1, i == 1 ? -9999 : i == 3 ? 9999 : 0);
            Due.is("the greatest miss towards " + heads[i], x.miss(i), 65 * (3 * 999 + 9999));
        }
        Due.is("of like ones the least", x.worst(), 0);
    }

    /** "the greater amount of X less 65 x, Y less 65 y" */
    private static void missIsTheGreaterAmount() {
        TrueArms x = standing(1, 2, 2);
        int[][] cases = {{300, 0, 0}, {301, 0, 65}, {299, 0, 65}, {300, 1, 65}, {300, -1, 65}, {302, 1, 130}, {298, -1, 130},
            {301, 2, 130}, {301, -2, 130}, {302, 2, 130}, {298, -2, 130}};
        for (int[] c : cases) {
            x.put(0, 2, 0, c[0]);
            x.put(0, 2, 1, c[1]);
            Due.is("miss of " + c[0] + ", " + c[1], x.miss(0), c[2]);
        }
        x.length(0, 101);
        x.put(0, 2, 0, 301);
        x.put(0, 2, 1, 0);
        Due.is("it goes by the arm's lengths", x.miss(0), 0);
    }

    private static void missOfOneLeftOut() {
        TrueArms x = standing(13, 2, 26);
        x.leave(0, true);
        Due.is("one left out has a miss", x.miss(0), 19500);
        x.leave(0, false);
        Due.is("the thirteenth is not used and has one", x.miss(12), 19500);
        Due.is("the fourteenth is none", x.miss(13), -2);
        Due.is("-1 is none", x.miss(-1), -2);
    }

    /** "of like ones the least; NONE" */
    private static void worstOfNone() {
        Due.is("worst() of no postures", new TrueArms().worst(), -1);
        TrueArms x = standing(2, 2, 1);
        Due.is("worst() of none measured", x.worst(), -1);
        x.sheet(0, 2, 4);
        x.leave(0, true);
        x.leave(1, true);
        Due.is("worst() of all left out", x.worst(), -1);
        x.leave(1, false);
        Due.is("worst() of one", x.worst(), 1);
        x.put(0, 2, 2, 300);
        Due.is("worst() of one that misses nothing", x.worst(), 1);
    }

    private static void worstOfLikeOnes() {
        TrueArms x = standing(4, 2, 8);
        Due.is("four alike", x.worst(), 0);
        x.put(0, 2, 0, 300);
        Due.is("three alike", x.worst(), 1);
        x.put(0, 2, 2, 600);
        x.put(0, 2, 5, 1);
        Due.is("alike on both sides", x.worst(), 1);
        x.put(0, 2, 7, -301);
        Due.is("one more than the others", x.worst(), 3);
    }

    private static void worstIsOfThoseUsed() {
        TrueArms x = standing(13, 2, 26);
        x.put(0, 2, 24, -9999);
        Due.is("the thirteenth is not used", x.worst(), 0);
        x.put(0, 2, 22, -9998);
        Due.is("the twelfth is", x.worst(), 11);
        x.put(0, 2, 23, 10000);
        Due.is("without a measure it is not, and the next is", x.worst(), 12);
    }
}
