/** Objects with a past. Each is made anew by at most 130 calls, so that some 380 are left to ask of it. */
final class Pasts {
    static final int NEW = 0;
    static final int EMPTIED = 1;
    static final int MIDDLE = 2;
    static final int FULL = 3;
    static final int COUNT = 4;

    static final String[] NAMES = {"new", "emptied", "middle", "full"};
    /** What count(5) tells in each. */
    static final int[] FINDINGS = {0, 2, 4, 3};
    static final int[] POSTURES = {0, 0, 6, 20};
    static final int[] PAIRS = {0, 0, 3, 20};

    private static final int[][] TURNS = {{4, 7, 3}, {12, 35, 1}, {1, 2, 3}, {30, 20, 10}, {0, 0, 0}, {9, 9, 9}};

    private Pasts() {
    }

    static TrueArms make(int past) {
        TrueArms x = new TrueArms();
        if (past == MIDDLE) {
            live(x);
        } else if (past == FULL) {
            fill(x);
        } else if (past == EMPTIED) {
            live(x);
            empty(x);
        }
        return x;
    }

    /** Six postures, the fourth left out, the last without a measure; sheet 2 is lost, sheet 3 has no items. */
    private static void live(TrueArms x) {
        bend(x);
        x.sheet(0, 2, 11);
        for (int i = 0; i < 5; i++) {
            x.posture(TURNS[i][0], TURNS[i][1], TURNS[i][2]);
            x.put(0, 2, 2 * i, x.hand(i, 0) / 65 + i);
            x.put(0, 2, 2 * i + 1, x.hand(i, 1) / 65 - i);
        }
        x.posture(TURNS[5][0], TURNS[5][1], TURNS[5][2]);
        x.leave(3, true);
        x.sheet(1, 0, 7);
        x.put(1, 0, 0, 5);
        x.put(1, 0, 3, -6);
        x.put(1, 0, 6, 7);
        x.sheet(3, 1, 0);
        x.pair(0, 0, 3, 4);
        x.pair(1, 0, 3, 5);
        x.pair(0, 2, 1, 4);
        x.copy(0, 0, 1, 0, 1);
    }

    private static void bend(TrueArms x) {
        x.length(0, 65);
        x.length(1, 130);
        x.length(2, 260);
        x.limit(0, 30, 11);
        x.limit(1, 2, 20);
        x.limit(2, 17, 18);
    }

    private static void empty(TrueArms x) {
        x.clear();
        x.shut();
        x.lose(0);
        x.lose(1);
        x.get(3, 1, 0);
        x.lose(3);
    }

    private static void fill(TrueArms x) {
        bend(x);
        for (int s = 0; s < 4; s++) {
            x.sheet(s, s % 3, 100);
        }
        x.sheet(0, 2, 100);
        for (int i = 0; i < 20; i++) {
            x.posture(i, 2 * i % 36, 5 * i % 36);
            x.put(0, 2, 2 * i, 10 * i - 90);
            x.put(0, 2, 2 * i + 1, 80 - 7 * i);
            x.pair(i, 0, 0, i);
        }
        x.leave(2, true);
        x.leave(19, true);
        for (int s = 1; s < 4; s++) {
            x.put(s, s % 3, 0, 3);
            x.put(s, s % 3, 1, -4);
            x.copy(s, 0, s, 2, 2);
            x.copy(s, 0, s, 96, 4);
        }
        x.put(0, 0, 0, 1);
    }
}
