/** Promise 26. */
final class DriftTest {
    public static void main(String[] args) {
        shares();
        rangesAndSigns();
        onlyTheFirstFifty();
        fiftyInExactSums();
        refusals();
        Due.end();
    }

    private static TrueArms signs(int above, int below) {
        TrueArms x = new TrueArms();
        x.sheet(2, 0, 100);
        for (int i = 0; i < above + below; i++) {
            x.put(2, 0, i, i < above ? 1 : -1);
        }
        return x;
    }

    private static void shares() {
        int[][] due = {{0, 0, 1000000}, {1, 0, 1000000}, {0, 1, 1000000}, {2, 0, 500000}, {1, 1, 1000000},
            {3, 0, 250000}, {1, 2, 1000000}, {0, 8, 7812}, {7, 1, 70312}, {2, 6, 289062}, {5, 3, 726562},
            {4, 4, 1000000}, {20, 0, 1}, {21, 0, 0}};
        for (int[] d : due) {
            TrueArms x = signs(d[0], d[1]);
            String of = " of " + d[0] + " above, " + d[1] + " below";
            Due.is("n" + of, x.drift(2, 0, 99, 0), d[0] + d[1]);
            Due.is("m" + of, x.drift(2, 0, 99, 1), d[0]);
            Due.is("the share" + of, x.drift(2, 0, 99, 2), d[2]);
        }
    }

    private static void rangesAndSigns() {
        TrueArms x = new TrueArms();
        x.sheet(3, 2, 5);
        x.put(3, 2, 0, Integer.MIN_VALUE);
        x.put(3, 2, 2, Integer.MAX_VALUE);
        x.put(3, 2, 4, 7);
        Due.is("n of all", x.drift(3, 0, 4, 0), 3);
        Due.is("m of all", x.drift(3, 0, 4, 1), 2);
        Due.is("n from 0 to 0", x.drift(3, 0, 0, 0), 1);
        Due.is("n from 1 to 1", x.drift(3, 1, 1, 0), 0);
        Due.is("m from 1 to 3", x.drift(3, 1, 3, 1), 1);
        Due.is("m from 2 to 4", x.drift(3, 2, 4, 1), 2);
    }

    private static void onlyTheFirstFifty() {
        TrueArms x = signs(49, 51);
        Due.is("n", x.drift(2, 0, 99, 0), 50);
        Due.is("m", x.drift(2, 0, 99, 1), 49);
        Due.is("n from 1", x.drift(2, 1, 99, 0), 50);
        Due.is("m from 1", x.drift(2, 1, 99, 1), 48);
        TrueArms y = signs(0, 60);
        y.put(2, 0, 50, 1);
        Due.is("the fifty-first is above, and does not count", y.drift(2, 0, 99, 1), 0);
        y.put(2, 0, 3, 0);
        Due.is("with a 0 before, it does", y.drift(2, 0, 99, 1), 1);
    }

    /** A million times 2 to the 50 is beyond a long. */
    private static void fiftyInExactSums() {
        Due.is("25 of 50", signs(25, 25).drift(2, 0, 99, 2), 1000000);
        Due.is("24 of 50", signs(24, 26).drift(2, 0, 99, 2), 887724);
        Due.is("20 of 50", signs(30, 20).drift(2, 0, 99, 2), 202638);
        Due.is("15 of 50", signs(15, 35).drift(2, 0, 99, 2), 6600);
        Due.is("24 of 49", signs(24, 25).drift(2, 0, 99, 2), 1000000);
    }

    private static void refusals() {
        TrueArms x = new TrueArms();
        x.sheet(0, 1, 10);
        Due.is("drift(4, 0, 0, 0)", x.drift(4, 0, 0, 0), -2);
        Due.is("drift(-1, 0, 0, 0)", x.drift(-1, 0, 0, 0), -2);
        Due.is("drift(0, 1, 0, 0)", x.drift(0, 1, 0, 0), -2);
        Due.is("drift(0, -1, 0, 0)", x.drift(0, -1, 0, 0), -2);
        Due.is("drift(0, -2, -1, 0)", x.drift(0, -2, -1, 0), -2);
        Due.is("drift(0, 0, 0, 3)", x.drift(0, 0, 0, 3), -2);
        Due.is("drift(0, 0, 0, -1)", x.drift(0, 0, 0, -1), -2);
        Due.is("bad before null", x.drift(1, 1, 0, 0), -2);
        Due.is("no finding yet", x.count(5), 0);
        Due.is("null", x.drift(1, 0, 200, 0), -11);
        Due.is("count(5)", x.count(5), 1);
        Due.is("index", x.drift(0, 0, 10, 0), -12);
        Due.is("count(5) then", x.count(5), 2);
        Due.is("index, far", x.drift(0, 0, Integer.MAX_VALUE, 0), -12);
        Due.is("the last item", x.drift(0, 9, 9, 0), 0);
        x.sheet(0, 1, 0);
        Due.is("an empty sheet has no item", x.drift(0, 0, 0, 0), -12);
    }
}
