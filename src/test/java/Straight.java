/** Arms in four postures along one line whose equations stand square to one another. */
final class Straight {
    private static final int[][] SIGNS = {{1, 1, 1}, {1, 1, -1}, {1, -1, -1}, {1, -1, 1}};

    private Straight() {
    }

    /** Measured as if the lengths were these, the first measure with so much more. */
    static TrueArms arms(int first, int second, int third, int more) {
        TrueArms x = new TrueArms();
        x.sheet(0, 2, 100);
        stand(x, 0, first, second, third);
        x.put(0, 2, 0, first + second + third + more);
        return x;
    }

    /** Four postures more, with the heading 0 or 9. */
    static void stand(TrueArms x, int heading, int first, int second, int third) {
        int[] turns = {0, 0, 0, 18, 18, 0, 18, 18};
        for (int t = 0; t < 4; t++) {
            int i = x.posture(heading, turns[2 * t], turns[2 * t + 1]);
            int along = first + SIGNS[t][1] * second + SIGNS[t][2] * third;
            x.put(0, 2, 2 * i, heading == 0 ? along : 0);
            x.put(0, 2, 2 * i + 1, heading == 0 ? 0 : along);
        }
    }
}
