/** The boundary cases of the document's third part and of promises 17 and 18, a sentence each. */
final class PostureEdgesTest {
    private static final long LONG_BAD = Long.MIN_VALUE + 2;
    private static final long SQUARE = 4225;

    public static void main(String[] args) {
        kIs1To4();
        fewerPosturesThanK();
        noneIfAllHaveD0();
        oneMoreMakesADifference();
        outOfTheFirst10();
        ofLikeOnesTheLeastBits();
        bestIsExact();
        rightSidesDoNotMatter();
        weightOfNoneAndAll();
        bitsOfSuchAsAreNotThere();
        weightOfEachSetAlone();
        weightFollowsClear();
        Due.end();
    }

    private static TrueArms straight(int postures) {
        TrueArms x = new TrueArms();
        for (int i = 0; i < postures; i++) {
            x.posture(i % 36, 0, 0);
        }
        return x;
    }

    /** "THE BEST k POSTURES (1 to 4)" */
    private static void kIs1To4() {
        TrueArms x = Straight.arms(1, 1, 1, 0);
        int[] k = {Integer.MIN_VALUE, -1, 0, 1, 2, 3, 4, 5, 20, Integer.MAX_VALUE};
        int[] due = {-2, -2, -2, -1, -1, 7, 15, -2, -2, -2};
        for (int t = 0; t < k.length; t++) {
            Due.is("best(" + k[t] + ")", x.best(k[t]), due[t]);
        }
    }

    /** "NOT: there are fewer POSTURES." */
    private static void fewerPosturesThanK() {
        for (int postures = 0; postures <= 5; postures++) {
            TrueArms x = straight(postures);
            for (int k = 1; k <= 4; k++) {
                Due.is("best(" + k + ") of " + postures, x.best(k), postures < k ? -3 : -1);
            }
            Due.is("best(0) of " + postures, x.best(0), -2);
            Due.is("best(5) of " + postures, x.best(5), -2);
        }
    }

    /** "NONE, if all have D 0." */
    private static void noneIfAllHaveD0() {
        TrueArms x = straight(20);
        for (int k = 1; k <= 4; k++) {
            Due.is("best(" + k + ") of twenty that tell one thing", x.best(k), -1);
        }
        TrueArms y = new TrueArms();
        for (int i = 0; i < 10; i++) {
            y.posture(0, 9, 9);
        }
        for (int k = 1; k <= 4; k++) {
            Due.is("best(" + k + ") of ten alike", y.best(k), -1);
        }
    }

    private static void oneMoreMakesADifference() {
        TrueArms x = new TrueArms();
        x.posture(0, 9, 0);
        Due.is("one alone never does", x.best(1), -1);
        x.posture(0, 0, 9);
        Due.is("two do", x.best(2), 3);
        Due.is("but not each alone", x.best(1), -1);
    }

    /** "out of the first 10" */
    private static void outOfTheFirst10() {
        TrueArms x = straight(8);
        x.posture(0, 9, 0);
        x.posture(0, 0, 9);
        Due.is("the ninth and tenth", x.best(2), 256 + 512);
        TrueArms y = straight(9);
        y.posture(0, 9, 0);
        y.posture(0, 0, 9);
        Due.is("the eleventh is not among them", y.best(2), -1);
        Due.is("there it takes three, and they are not there", y.best(3), -1);
        Due.is("the last bit", y.weight(512), 0);
        Due.is("the first bit that is not", y.weight(1024), LONG_BAD);
    }

    private static void ofLikeOnesTheLeastBits() {
        TrueArms x = new TrueArms();
        for (int i = 0; i < 10; i++) {
            x.posture(i, i % 2 == 0 ? 9 : 0, i % 2 == 0 ? 0 : 9);
        }
        Due.is("all pairs of an even and an odd one are alike", x.best(2), 3);
        TrueArms y = new TrueArms();
        y.posture(0, 0, 0);
        y.posture(0, 9, 0);
        y.posture(0, 9, 0);
        y.posture(0, 0, 9);
        y.posture(0, 0, 9);
        Due.is("the least of four pairs that are alike", y.best(2), 2 + 8);
        y.posture(0, 9, 9);
        y.posture(0, 9, 9);
        Due.is("weights of two", y.weight(2 + 8), y.weight(4 + 16));
    }

    /** Every set of each k, weighed alone, against the one that was found. */
    private static void bestIsExact() {
        for (int seed = 0; seed < 40; seed++) {
            TrueArms x = new TrueArms();
            int postures = 4 + seed % 5;
            for (int i = 0; i < postures; i++) {
                x.posture((seed + 7 * i) % 36, (seed * i + 2) % 36, (seed + i * i) % 36);
            }
            int[] found = new int[5];
            long[] most = new long[5];
            for (int bits = 0; bits < 1 << postures; bits++) {
                int k = Integer.bitCount(bits);
                long d = k <= 4 ? x.weight(bits) : 0;
                if (d != 0 && d > most[k]) {
                    most[k] = d;
                    found[k] = bits;
                }
            }
            for (int k = 1; k <= 4; k++) {
                Due.is("best(" + k + ") of " + seed, x.best(k), most[k] == 0 ? -1 : found[k]);
            }
        }
    }

    /** "(right sides do not matter)" */
    private static void rightSidesDoNotMatter() {
        TrueArms x = Straight.arms(100, 100, 100, 0);
        for (int i = 0; i < 4; i++) {
            x.leave(i, true);
        }
        Due.is("left out, they count", x.best(3), 7);
        x.put(0, 2, 0, 10000);
        Due.is("without a measure, too", x.best(4), 15);
        x.lose(0);
        Due.is("without the sheet, too", x.weight(7), 16 * SQUARE * SQUARE * SQUARE);
        x.length(0, 999);
        Due.is("lengths do not matter either", x.weight(15), 64 * SQUARE * SQUARE * SQUARE);
    }

    /** "D of a set of the first 10 POSTURES (bits)." */
    private static void weightOfNoneAndAll() {
        Due.is("weight(0) of no postures", new TrueArms().weight(0), 0);
        TrueArms x = new TrueArms();
        for (int i = 0; i < 20; i++) {
            x.posture(0, i % 4 == 1 || i % 4 == 2 ? 18 : 0, i % 4 >= 2 ? 18 : 0);
        }
        Due.is("weight(0)", x.weight(0), 0);
        Due.is("weight(15)", x.weight(15), 64 * SQUARE * SQUARE * SQUARE);
        Due.is("weight(255)", x.weight(255), 512 * SQUARE * SQUARE * SQUARE);
        Due.is("weight(1023) of ten: 10 along the middle", x.weight(1023), determinantOfTen() * SQUARE * SQUARE * SQUARE);
        Due.is("weight(1024), though there are twenty", x.weight(1024), LONG_BAD);
        Due.is("weight(2047)", x.weight(2047), LONG_BAD);
    }

    /** Postures 0 to 9 as signs of the second and third link: 1 1, -1 -1, -1 1, 1 -1 and so on. */
    private static long determinantOfTen() {
        long[][] g = new long[3][3];
        for (int i = 0; i < 10; i++) {
            int second = i % 4 == 1 || i % 4 == 2 ? -1 : 1;
            int third = i % 4 >= 2 ? -second : second;
            int[] row = {1, second, third};
            for (int r = 0; r < 3; r++) {
                for (int c = 0; c < 3; c++) {
                    g[r][c] += row[r] * row[c];
                }
            }
        }
        return g[0][0] * (g[1][1] * g[2][2] - g[1][2] * g[2][1])
            - g[0][1] * (g[1][0] * g[2][2] - g[1][2] * g[2][0])
            + g[0][2] * (g[1][0] * g[2][1] - g[1][1] * g[2][0]);
    }

    /** "BAD: bits of such as are not there." */
    private static void bitsOfSuchAsAreNotThere() {
        for (int postures = 0; postures <= 12; postures++) {
            TrueArms x = straight(postures);
            int there = Math.min(postures, 10);
            Due.is("all bits of " + postures, x.weight((1 << there) - 1), 0);
            for (int bit = there; bit < 32; bit++) {
                Due.is("bit " + bit + " of " + postures, x.weight(1 << bit), LONG_BAD);
                Due.is("bit " + bit + " with all of " + postures, x.weight(1 << bit | (1 << there) - 1), LONG_BAD);
            }
            Due.is("-1", x.weight(-1), LONG_BAD);
        }
    }

    private static void weightOfEachSetAlone() {
        TrueArms x = new TrueArms();
        x.posture(0, 9, 0);
        x.posture(0, 0, 9);
        x.posture(0, 9, 27);
        long[] due = {0, 0, 0, 4, 0, 4, 4, 20};
        for (int bits = 0; bits < 8; bits++) {
            Due.is("weight(" + bits + ")", x.weight(bits), due[bits] * SQUARE * SQUARE * SQUARE);
        }
    }

    private static void weightFollowsClear() {
        TrueArms x = straight(3);
        Due.is("weight(4) of three", x.weight(4), 0);
        x.clear();
        Due.is("weight(1) after clear()", x.weight(1), LONG_BAD);
        Due.is("best(1) after clear()", x.best(1), -3);
        x.posture(0, 9, 0);
        x.posture(0, 0, 9);
        Due.is("weight(3) of new ones", x.weight(3), 4 * SQUARE * SQUARE * SQUARE);
        Due.is("weight(4) of two", x.weight(4), LONG_BAD);
    }
}
