import java.math.BigInteger;

/** The boundary cases of the document's sixth part and of promise 26, a sentence each. */
final class DriftEdgesTest {
    private static final int LEAST = Integer.MIN_VALUE, GREATEST = Integer.MAX_VALUE;

    public static void main(String[] args) {
        zerosDoNotCount();
        theGreatestAndLeastOfEachForm();
        kIsTheLesserOne();
        sharesOfAllSigns();
        twoToTheNAtMost();
        roundedDown();
        nIs50AtMost();
        theFirst50ThatCount();
        fromIToJ();
        sheetIsBad();
        iAndJAreBad();
        whatIsBad();
        lostSheets();
        jIsNoItem();
        driftReadsEachSheet();
        Due.end();
    }

    private static TrueArms row(int form, int... items) {
        TrueArms x = new TrueArms();
        x.sheet(1, form, items.length);
        for (int i = 0; i < items.length; i++) {
            x.put(1, form, i, items[i]);
        }
        return x;
    }

    private static TrueArms signs(int above, int below) {
        int[] items = new int[100];
        for (int i = 0; i < above + below; i++) {
            items[i] = i < above ? 1 : -1;
        }
        return row(0, items);
    }

    /** "of items from i to j of a SHEET those that are not 0 count: n of them, of these m above 0" */
    private static void zerosDoNotCount() {
        TrueArms x = row(2, 0, 1, 0, -1, 0, 1);
        Due.is("n", x.drift(1, 0, 5, 0), 3);
        Due.is("m", x.drift(1, 0, 5, 1), 2);
        TrueArms none = row(2, 0, 0, 0);
        Due.is("n of zeros", none.drift(1, 0, 2, 0), 0);
        Due.is("m of zeros", none.drift(1, 0, 2, 1), 0);
        Due.is("the share of none: all of one row", none.drift(1, 0, 2, 2), 1000000);
    }

    private static void theGreatestAndLeastOfEachForm() {
        int[] high = {127, 32767, GREATEST};
        int[] low = {-128, -32768, LEAST};
        for (int form = 0; form < 3; form++) {
            TrueArms x = row(form, high[form], low[form], 1, -1, 1);
            Due.is("n of form " + form, x.drift(1, 0, 4, 0), 5);
            Due.is("m of form " + form, x.drift(1, 0, 4, 1), 3);
        }
        TrueArms bytes = row(0, 128, 255, 256);
        Due.is("of bytes that are cut 256 is 0", bytes.drift(1, 0, 2, 0), 2);
        Due.is("and the others are below", bytes.drift(1, 0, 2, 1), 0);
        TrueArms shorts = row(1, 32768, 65535, 65536);
        Due.is("of shorts 65536 is 0", shorts.drift(1, 0, 2, 0), 2);
        Due.is("and the others are below, too", shorts.drift(1, 0, 2, 1), 0);
    }

    /** "k is the lesser one of m and n less m" */
    private static void kIsTheLesserOne() {
        for (int m = 0; m <= 9; m++) {
            int one = signs(m, 9 - m).drift(1, 0, 99, 2);
            int other = signs(9 - m, m).drift(1, 0, 99, 2);
            Due.is("the share of " + m + " above is that of " + m + " below", one, other);
        }
        Due.is("none of 9", signs(0, 9).drift(1, 0, 99, 2), 3906);
        Due.is("one of 9", signs(1, 8).drift(1, 0, 99, 2), 39062);
        Due.is("four of 9", signs(4, 5).drift(1, 0, 99, 2), 1000000);
    }

    /** "2 times the sum of n over t for t from 0 to k, 2 to the n at most": in big numbers for all n and m. */
    private static void sharesOfAllSigns() {
        for (int n = 0; n <= 50; n++) {
            for (int m = 0; m <= n; m++) {
                TrueArms x = signs(m, n - m);
                String of = " of " + m + " above out of " + n;
                Due.is("n" + of, x.drift(1, 0, 99, 0), n);
                Due.is("m" + of, x.drift(1, 0, 99, 1), m);
                Due.is("the share" + of, x.drift(1, 0, 99, 2), share(n, Math.min(m, n - m)));
            }
        }
    }

    private static long share(int n, int k) {
        BigInteger sum = BigInteger.ZERO;
        BigInteger over = BigInteger.ONE;
        for (int t = 0; t <= k; t++) {
            sum = sum.add(over);
            over = over.multiply(BigInteger.valueOf(n - t)).divide(BigInteger.valueOf(t + 1));
        }
        BigInteger all = BigInteger.ONE.shiftLeft(n);
        return sum.shiftLeft(1).min(all).multiply(BigInteger.valueOf(1000000)).divide(all).longValueExact();
    }

    private static void twoToTheNAtMost() {
        Due.is("one sign alone", signs(1, 0).drift(1, 0, 99, 2), 1000000);
        for (int half = 1; half <= 25; half++) {
            Due.is("half of " + 2 * half, signs(half, half).drift(1, 0, 99, 2), 1000000);
        }
        Due.is("less than half of 4", signs(1, 3).drift(1, 0, 99, 2), 625000);
        Due.is("less than half of 50", signs(24, 26).drift(1, 0, 99, 2), share(50, 24));
    }

    /** "in millionths of these, rounded down" */
    private static void roundedDown() {
        Due.is("2 of 2 to the 7", signs(7, 0).drift(1, 0, 99, 2), 15625);
        Due.is("2 of 2 to the 8 is 7812 and a half", signs(8, 0).drift(1, 0, 99, 2), 7812);
        Due.is("2 of 2 to the 20 is above 1", signs(20, 0).drift(1, 0, 99, 2), 1);
        Due.is("2 of 2 to the 21 is below 1", signs(0, 21).drift(1, 0, 99, 2), 0);
        Due.is("2 of 2 to the 50", signs(50, 0).drift(1, 0, 99, 2), 0);
    }

    /** "n is 50 at most" */
    private static void nIs50AtMost() {
        int[] counting = {49, 50, 51, 100};
        for (int n : counting) {
            TrueArms x = signs(n, 0);
            Due.is("n of " + n, x.drift(1, 0, 99, 0), Math.min(n, 50));
            Due.is("m of " + n, x.drift(1, 0, 99, 1), Math.min(n, 50));
            TrueArms y = signs(0, n);
            Due.is("n of " + n + " below", y.drift(1, 0, 99, 0), Math.min(n, 50));
            Due.is("m of " + n + " below", y.drift(1, 0, 99, 1), 0);
        }
    }

    /** "(the first 50 that count)" */
    private static void theFirst50ThatCount() {
        TrueArms x = signs(25, 75);
        Due.is("m of the first 50", x.drift(1, 0, 99, 1), 25);
        Due.is("half of them", x.drift(1, 0, 99, 2), 1000000);
        Due.is("from the second on", x.drift(1, 1, 99, 1), 24);
        Due.is("less than half then", x.drift(1, 1, 99, 2), share(50, 24));
        Due.is("from the last one above on", x.drift(1, 24, 99, 1), 1);
        Due.is("their number", x.drift(1, 24, 99, 0), 50);
        int[] late = new int[100];
        for (int i = 50; i < 100; i++) {
            late[i] = i == 99 ? 1 : -1;
        }
        TrueArms y = row(1, late);
        Due.is("50 behind 50 zeros", y.drift(1, 0, 99, 0), 50);
        Due.is("the hundredth counts", y.drift(1, 0, 99, 1), 1);
        y.put(1, 1, 49, -1);
        Due.is("with one more before it does not", y.drift(1, 0, 99, 1), 0);
        Due.is("but from 50 on", y.drift(1, 50, 99, 1), 1);
    }

    private static void fromIToJ() {
        int[] items = new int[100];
        items[0] = 1;
        items[50] = -1;
        items[99] = 1;
        TrueArms x = row(0, items);
        int[][] due = {{0, 99, 3, 2}, {0, 0, 1, 1}, {1, 99, 2, 1}, {0, 98, 2, 1}, {1, 98, 1, 0}, {99, 99, 1, 1},
            {50, 50, 1, 0}, {49, 49, 0, 0}, {51, 98, 0, 0}, {49, 51, 1, 0}};
        for (int[] d : due) {
            Due.is("n from " + d[0] + " to " + d[1], x.drift(1, d[0], d[1], 0), d[2]);
            Due.is("m from " + d[0] + " to " + d[1], x.drift(1, d[0], d[1], 1), d[3]);
        }
    }

    /** "BAD: the SHEET, i above j, below 0, what" */
    private static void sheetIsBad() {
        TrueArms x = row(0, 1);
        int[] wrong = {LEAST, -1, 4, GREATEST};
        for (int s : wrong) {
            Due.is("drift(" + s + ", 0, 0, 0)", x.drift(s, 0, 0, 0), -2);
            Due.is("drift(" + s + ", 0, 500, 0)", x.drift(s, 0, 500, 0), -2);
        }
        Due.is("no finding", x.count(5), 0);
    }

    private static void iAndJAreBad() {
        TrueArms x = row(0, 1, 1, 1);
        int[][] wrong = {{1, 0}, {2, 1}, {3, 2}, {100, 2}, {GREATEST, 2}, {-1, 2}, {-1, -1}, {-2, -1}, {0, -1}, {LEAST, 2},
            {LEAST, LEAST}, {LEAST, GREATEST}, {GREATEST, LEAST}};
        for (int[] w : wrong) {
            Due.is("from " + w[0] + " to " + w[1], x.drift(1, w[0], w[1], 0), -2);
            Due.is("of a lost sheet, too", x.drift(0, w[0], w[1], 0), -2);
        }
        Due.is("no finding", x.count(5), 0);
        Due.is("i may be j", x.drift(1, 2, 2, 0), 1);
    }

    private static void whatIsBad() {
        TrueArms x = row(0, 1);
        int[] wrong = {LEAST, -1, 3, GREATEST};
        for (int what : wrong) {
            Due.is("what " + what, x.drift(1, 0, 0, what), -2);
            Due.is("what " + what + " of a lost sheet", x.drift(0, 0, 0, what), -2);
            Due.is("what " + what + " of no item", x.drift(1, 0, 1, what), -2);
        }
        Due.is("no finding", x.count(5), 0);
    }

    /** "NULL", and before INDEX */
    private static void lostSheets() {
        for (int s = 0; s < 4; s++) {
            TrueArms x = new TrueArms();
            Due.is("drift of lost sheet " + s, x.drift(s, 0, 0, 0), -11);
            Due.is("count(5)", x.count(5), 1);
            Due.is("far items of lost sheet " + s, x.drift(s, 0, GREATEST, 2), -11);
            x.sheet(s, 0, 1);
            Due.is("it is there", x.drift(s, 0, 0, 0), 0);
            x.lose(s);
            Due.is("lost again", x.drift(s, 0, 0, 0), -11);
        }
    }

    /** "INDEX: j is no item." */
    private static void jIsNoItem() {
        int[] sizes = {0, 1, 2, 99, 100};
        for (int n : sizes) {
            TrueArms x = new TrueArms();
            x.sheet(1, 2, n);
            Due.is("the first that is no item of " + n, x.drift(1, 0, n, 0), -12);
            Due.is("count(5)", x.count(5), 2);
            Due.is("i and j both", x.drift(1, n, n, 1), -12);
            Due.is("beyond", x.drift(1, n + 1, n + 1, 2), -12);
            Due.is("the greatest", x.drift(1, 0, GREATEST, 0), -12);
            Due.is("the greatest i and j", x.drift(1, GREATEST, GREATEST, 0), -12);
            if (n > 0) {
                Due.is("the last item of " + n, x.drift(1, 0, n - 1, 0), 0);
            }
            Due.is("what stands is kept", x.count(5), 2);
        }
    }

    private static void driftReadsEachSheet() {
        TrueArms x = new TrueArms();
        for (int s = 0; s < 4; s++) {
            x.sheet(s, s % 3, 4);
            for (int i = 0; i <= s; i++) {
                x.put(s, s % 3, i, 1);
            }
        }
        for (int s = 0; s < 4; s++) {
            Due.is("n of sheet " + s, x.drift(s, 0, 3, 0), s + 1);
        }
    }
}
