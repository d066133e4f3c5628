/** Arms in four postures along one line whose equations stand square to one another. */
final class Straight {
    private static final int[][] SIGNS = {{1, 1, 1}, {1, 1, -1}, {1, -1, -1}, {1, -1, 1}};

    private Straight() {
    }

    /** Measured as if the lengths were these, the first measure with so much more. */
    static TrueArms arms(int first, int second, int third, int more) {
        TrueArms x = new TrueArms();
        x.sheet(0, 2, 100);
        stand(x, 0, first, second, third);
        x.put(0, 2, 0, first + second + third + more);
        return x;
    }

    /** Four postures more with this heading; for other headings than 0 and 9 the lengths are in 65s. */
    static void stand(TrueArms x, int heading, int first, int second, int third) {
        int[] turns = {0, 0, 0, 18, 18, 0, 18, 18};
        for (int t = 0; t < 4; t++) {
            int i = x.posture(heading, turns[2 * t], turns[2 * t + 1]);
            int along = first + SIGNS[t][1] * second + SIGNS[t][2] * third;
            x.put(0, 2, 2 * i, x.turn(heading, 0) * along / 65);
            x.put(0, 2, 2 * i + 1, x.turn(heading, 1) * along / 65);
        }
    }
}
