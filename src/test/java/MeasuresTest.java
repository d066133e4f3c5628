/** Promises 8 to 16. */
final class MeasuresTest {
    private static final long LEAST = Long.MIN_VALUE;

    public static void main(String[] args) {
        measures();
        measuresOfEachForm();
        leaving();
        usedAreTwelve();
        tables();
        ranks();
        toldOnes();
        fits();
        fitsOfAnyPostures();
        fitsBeyondLongs();
        misses();
        worstOnes();
        Due.end();
    }

    private static void measures() {
        TrueArms x = new TrueArms();
        x.posture(0, 0, 0);
        x.posture(0, 0, 0);
        Due.is("sheet 0 is lost", x.measure(0, 0), -10001);
        Due.is("that is no finding", x.count(5), 0);
        x.sheet(0, 2, 3);
        x.put(0, 2, 0, 9999);
        x.put(0, 2, 1, -9999);
        Due.is("measure(0, 0)", x.measure(0, 0), 9999);
        Due.is("measure(0, 1)", x.measure(0, 1), -9999);
        Due.is("half of it is there", x.measure(1, 0), -10001);
        Due.is("measure(2, 0)", x.measure(2, 0), -10000);
        Due.is("measure(-1, 0)", x.measure(-1, 0), -10000);
        Due.is("measure(0, 2)", x.measure(0, 2), -10000);
        Due.is("measure(0, -1)", x.measure(0, -1), -10000);
        Due.is("bad before not", x.measure(1, 2), -10000);
        x.put(0, 2, 0, 10000);
        Due.is("x too great", x.measure(0, 1), -10001);
        x.put(0, 2, 0, 0);
        x.put(0, 2, 1, -10000);
        Due.is("y too small", x.measure(0, 0), -10001);
        x.lose(0);
        Due.is("lost again", x.measure(0, 0), -10001);
        measureOfALaterPosture();
    }

    private static void measureOfALaterPosture() {
        int[] values = {9999, 10000, -9999, -10000};
        for (int item = 0; item < 8; item++) {
            for (int v : values) {
                TrueArms x = new TrueArms();
                x.sheet(0, 2, 8);
                for (int i = 0; i < 4; i++) {
                    x.posture(0, 0, 0);
                }
                x.put(0, 2, item, v);
                for (int i = 0; i < 4; i++) {
                    boolean spoilt = item / 2 == i && Math.abs(v) > 9999;
                    int due = spoilt ? -10001 : item == 2 * i ? v : 0;
                    Due.is("measure(" + i + ", 0) with " + v + " at " + item, x.measure(i, 0), due);
                }
            }
        }
    }

    private static void measuresOfEachForm() {
        for (int form = 0; form < 3; form++) {
            TrueArms x = new TrueArms();
            x.sheet(0, form, 2);
            x.put(0, form, 0, -3);
            x.put(0, form, 1, 4);
            x.posture(0, 0, 0);
            Due.is("x of form " + form, x.measure(0, 0), -3);
            Due.is("y of form " + form, x.measure(0, 1), 4);
        }
    }

    private static void leaving() {
        TrueArms x = Straight.arms(100, 100, 100, 0);
        Due.is("leave(1, true)", x.leave(1, true), 1);
        Due.is("leave(1, true) again", x.leave(1, true), 1);
        Due.is("count(1)", x.count(1), 1);
        Due.is("used()", x.used(), 3);
        Due.is("its measure is there", x.measure(1, 0), 100);
        Due.is("its miss is there", x.miss(1), 0);
        Due.is("leave(1, false)", x.leave(1, false), 1);
        Due.is("used() again", x.used(), 4);
        Due.is("leave(4, true)", x.leave(4, true), -2);
        Due.is("leave(-1, false)", x.leave(-1, false), -2);
    }

    private static void usedAreTwelve() {
        TrueArms x = new TrueArms();
        for (int i = 0; i < 20; i++) {
            x.posture(0, 0, 0);
        }
        Due.is("none is measured", x.used(), 0);
        x.sheet(0, 0, 100);
        Due.is("used()", x.used(), 12);
        Due.is("table(0, 0)", x.table(0, 0), 12 * 4225);
        x.put(0, 0, 2 * 12, 5);
        Due.is("posture 12 is not used, so not the worst", x.worst(), 0);
        x.put(0, 0, 2 * 12, -5);
        Due.is("still", x.worst(), 0);
        x.leave(0, true);
        Due.is("used() without 0", x.used(), 12);
        Due.is("now posture 12 is", x.worst(), 12);
        x.sheet(0, 0, 7);
        Due.is("three measures, one left out", x.used(), 2);
    }

    private static void tables() {
        TrueArms x = new TrueArms();
        x.posture(0, 1, 1);
        x.posture(9, 9, 27);
        x.sheet(0, 1, 4);
        long[][] due = {{8450, 65 * 63, 65 * 60 + 4225}, {65 * 63, 8450, 63 * 60 + 16 * 25},
            {65 * 60 + 4225, 63 * 60 + 16 * 25, 8450}};
        for (int i = 0; i < 3; i++) {
            for (int j = 0; j < 3; j++) {
                Due.is("table(" + i + ", " + j + ")", x.table(i, j), due[i][j]);
            }
        }
        Due.is("table(3, 0)", x.table(3, 0), LEAST + 2);
        Due.is("table(0, 3)", x.table(0, 3), LEAST + 2);
        Due.is("table(-1, 0)", x.table(-1, 0), LEAST + 2);
        Due.is("table(0, -1)", x.table(0, -1), LEAST + 2);
        x.lose(0);
        Due.is("table of nothing", x.table(0, 0), 0);
    }

    private static void ranks() {
        TrueArms x = new TrueArms();
        x.sheet(0, 0, 100);
        Due.is("rank 0", x.rank(), 0);
        x.posture(5, 0, 0);
        x.posture(9, 0, 0);
        Due.is("rank 1", x.rank(), 1);
        x.posture(7, 0, 18);
        Due.is("rank 2", x.rank(), 2);
        x.posture(7, 18, 0);
        Due.is("rank 3", x.rank(), 3);
        x.leave(2, true);
        Due.is("rank 2 again", x.rank(), 2);
    }

    /** Each length once as the only one that is told: the other two always go one way. */
    private static void toldOnes() {
        int[][] turns = {{0, 9, 0}, {0, 9, 27}, {0, 0, 9}};
        int[] due = {0, 1, 2};
        for (int t = 0; t < 3; t++) {
            TrueArms x = new TrueArms();
            x.sheet(0, 0, 100);
            x.posture(turns[t][0], turns[t][1], turns[t][2]);
            Due.is("rank", x.rank(), 2);
            for (int i = 0; i < 3; i++) {
                Due.is("told(" + i + ") of " + t, x.told(i), i == due[t] ? 1 : 0);
            }
        }
        TrueArms x = new TrueArms();
        Due.is("told(0) of nothing", x.told(0), 0);
        Due.is("told(3)", x.told(3), -2);
        Due.is("told(-1)", x.told(-1), -2);
        x.sheet(0, 0, 4);
        x.posture(0, 3, 4);
        Due.is("rank 2, none is told", x.told(0) + x.told(1) + x.told(2), 0);
        x.posture(1, 9, 4);
        Due.is("rank 3, all are", x.told(0) + x.told(1) + x.told(2), 3);
    }

    private static void fits() {
        TrueArms x = Straight.arms(120, -7, 900, 0);
        Due.is("fit(0)", x.fit(0), 12000);
        Due.is("fit(1)", x.fit(1), -700);
        Due.is("fit(2)", x.fit(2), 90000);
        Due.is("fit(3)", x.fit(3), LEAST + 2);
        Due.is("fit(-1)", x.fit(-1), LEAST + 2);
        x.leave(0, true);
        x.leave(1, true);
        Due.is("fit(0) of rank 2", x.fit(0), LEAST + 3);
        x.clear();
        Due.is("fit(0) of nothing", x.fit(0), LEAST + 3);
        Due.is("bad before not", x.fit(3), LEAST + 2);
    }

    /** Lengths in 65s have whole measures in each posture, so they are found again. */
    private static void fitsOfAnyPostures() {
        int[][] turns = {{4, 7, 3}, {12, 35, 1}, {1, 2, 3}, {30, 20, 10}};
        TrueArms x = new TrueArms();
        x.length(0, 65);
        x.length(1, 130);
        x.length(2, 260);
        x.sheet(0, 2, 8);
        for (int i = 0; i < 4; i++) {
            x.posture(turns[i][0], turns[i][1], turns[i][2]);
            x.put(0, 2, 2 * i, x.hand(i, 0) / 65);
            x.put(0, 2, 2 * i + 1, x.hand(i, 1) / 65);
        }
        for (int i = 0; i < 4; i++) {
            Due.is("miss(" + i + ")", x.miss(i), 0);
        }
        for (int i = 0; i < 3; i++) {
            Due.is("fit(" + i + ")", x.fit(i), 6500L << i);
        }
    }

    /** 6500 times D i is about 4 times 10 to the 19 here; each 1 less makes the lengths a twelfth less. */
    private static void fitsBeyondLongs() {
        int[] lengths = {3333, -3333};
        long[] due = {333300, -333300};
        for (int t = 0; t < 2; t++) {
            int v = lengths[t];
            TrueArms x = Straight.arms(v, v, v, 0);
            Straight.stand(x, 9, v, v, v);
            Straight.stand(x, 0, v, v, v);
            for (int i = 0; i < 3; i++) {
                Due.is("fit(" + i + ") of " + v, x.fit(i), due[t]);
            }
            x.put(0, 2, 2, x.get(0, 2, 2) - 1);
            Due.is("a twelfth less, rounded down", x.fit(0), due[t] - 9);
            Due.is("a twelfth more, rounded down", x.fit(2), due[t] + 8);
        }
    }

    private static void misses() {
        TrueArms x = new TrueArms();
        x.posture(0, 0, 0);
        x.posture(0, 0, 0);
        Due.is("miss(0) without a measure", x.miss(0), -3);
        x.sheet(0, 1, 2);
        Due.is("miss(0)", x.miss(0), 19500);
        x.put(0, 1, 0, 301);
        Due.is("the hand is short", x.miss(0), 65);
        x.put(0, 1, 1, 2);
        Due.is("y is more", x.miss(0), 130);
        x.put(0, 1, 1, -3);
        Due.is("y is more, below", x.miss(0), 195);
        x.put(0, 1, 0, 296);
        Due.is("x is more", x.miss(0), 260);
        Due.is("miss(1)", x.miss(1), -3);
        Due.is("miss(2)", x.miss(2), -2);
        Due.is("miss(-1)", x.miss(-1), -2);
    }

    private static void worstOnes() {
        TrueArms x = Straight.arms(100, 100, 100, 0);
        Due.is("all alike", x.worst(), 0);
        x.put(0, 2, 4, -104);
        x.put(0, 2, 6, 104);
        Due.is("two alike", x.worst(), 2);
        x.put(0, 2, 7, -5);
        Due.is("the fourth", x.worst(), 3);
        x.leave(3, true);
        Due.is("the fourth is left out", x.worst(), 2);
        x.lose(0);
        Due.is("none is used", x.worst(), -1);
    }
}
