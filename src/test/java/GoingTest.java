/** Promises 23 to 25. */
final class GoingTest {
    private static final long BAD = Long.MIN_VALUE + 2;

    public static void main(String[] args) {
        limits();
        limitsGoRound();
        straightOnes();
        likeOnes();
        farthestPlaces();
        placeRefusals();
        Due.end();
    }

    private static void limits() {
        TrueArms x = new TrueArms();
        Due.is("limit(0, 3, 0)", x.limit(0, 3, 0), 1);
        Due.is("limit(1, 35, 0)", x.limit(1, 35, 0), 1);
        Due.is("limit(2, 0, 0)", x.limit(2, 0, 0), 1);
        Due.is("there is one posture", x.nearest(-300, 7), 33500);
        int[][] wrong = {{-1, 0, 0}, {3, 0, 0}, {0, -1, 0}, {0, 36, 0}, {0, 0, -1}, {0, 0, 36}};
        for (int[] w : wrong) {
            Due.is("limit(" + w[0] + ", " + w[1] + ", " + w[2] + ")", x.limit(w[0], w[1], w[2]), -2);
        }
        Due.is("it is still the one", x.nearest(300, 7), 33500);
        x.limit(0, 7, 35);
        x.limit(1, 7, 35);
        x.limit(2, 7, 35);
        Due.is("all turns again", x.nearest(300, 0), 0);
    }

    private static void limitsGoRound() {
        TrueArms x = new TrueArms();
        x.limit(0, 34, 3);
        x.limit(1, 0, 0);
        x.limit(2, 0, 0);
        int[][] heads = {{34, 340000}, {35, 350000}, {0, 0}, {1, 10000}, {2, 10000}, {33, 340000}};
        for (int[] head : heads) {
            int placeX = 3 * x.turn(head[0], 0);
            int placeY = 3 * x.turn(head[0], 1);
            Due.is("towards " + head[0], x.nearest(placeX, placeY), head[1]);
        }
        x.limit(0, 0, 0);
        x.limit(2, 35, 1);
        Due.is("the third one round, up", x.nearest(200 + 96, -25), 35);
        Due.is("the third one round, down", x.nearest(200 + 96, 25), 0);
    }

    private static void straightOnes() {
        TrueArms x = new TrueArms();
        x.length(0, 65);
        x.length(1, 130);
        x.length(2, 260);
        int[][] turns = {{0, 0, 0}, {4, 7, 3}, {12, 35, 1}, {35, 35, 35}};
        for (int[] t : turns) {
            int second = (t[0] + t[1]) % 36;
            int third = (second + t[2]) % 36;
            int placeX = x.turn(t[0], 0) + 2 * x.turn(second, 0) + 4 * x.turn(third, 0);
            int placeY = x.turn(t[0], 1) + 2 * x.turn(second, 1) + 4 * x.turn(third, 1);
            Due.is("near() of a hand's place", x.near(placeX, placeY), 0);
            int found = x.nearest(placeX, placeY);
            int i = x.posture(found / 10000, found / 100 % 100, found % 100);
            Due.is("the hand is there in x", x.hand(i, 0), 65 * placeX);
            Due.is("the hand is there in y", x.hand(i, 1), 65 * placeY);
        }
    }

    /** Many postures bring the hand to one place, or leave it as far away. */
    private static void likeOnes() {
        TrueArms x = new TrueArms();
        Due.is("the least a: the second and third fold", x.nearest(100, 0), 18);
        Due.is("near", x.near(100, 0), 0);
        x.limit(0, 1, 34);
        Due.is("without a = 0", x.nearest(100, 0), 11817);
        Due.is("near then", x.near(100, 0), 0);
        x.limit(0, 0, 0);
        x.limit(1, 18, 0);
        Due.is("each c leaves one link: the least c", x.nearest(0, 0), 1800);
        Due.is("near of it is one link", x.near(0, 0), 42250000);
        x.limit(2, 30, 10);
        Due.is("the least c, not the first from LOW on", x.nearest(0, 0), 1800);
        x.limit(2, 30, 3);
        Due.is("the least c of those that may be", x.nearest(0, 0), 1830);
    }

    private static void farthestPlaces() {
        TrueArms x = new TrueArms();
        x.limit(0, 0, 0);
        x.limit(1, 0, 0);
        x.limit(2, 0, 0);
        for (int i = 0; i < 3; i++) {
            x.length(i, 999);
        }
        Due.is("near(-3000, 3000)", x.near(-3000, 3000), 4225L * (5997L * 5997 + 9000000));
        Due.is("near(-3000, -3000)", x.near(-3000, -3000), 4225L * (5997L * 5997 + 9000000));
        Due.is("near(3000, 0)", x.near(3000, 0), 4225L * 9);
    }

    private static void placeRefusals() {
        TrueArms x = new TrueArms();
        int[][] wrong = {{3001, 0}, {-3001, 0}, {0, 3001}, {0, -3001}, {Integer.MIN_VALUE, 0}, {0, Integer.MAX_VALUE}};
        for (int[] w : wrong) {
            Due.is("nearest(" + w[0] + ", " + w[1] + ")", x.nearest(w[0], w[1]), -2);
            Due.is("near(" + w[0] + ", " + w[1] + ")", x.near(w[0], w[1]), BAD);
        }
        Due.is("nearest(3000, 0)", x.nearest(3000, 0), 0);
        Due.is("nearest(0, 3000)", x.nearest(0, 3000), 90000);
        Due.is("nearest(-3000, 0)", x.nearest(-3000, 0), 180000);
        Due.is("nearest(0, -3000)", x.nearest(0, -3000), 270000);
    }
}
