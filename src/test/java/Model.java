import java.math.BigInteger;
import java.util.ArrayList;
import java.util.List;

/** The document once more, told as plainly as it can be and with no thought of speed: the class is held against it. */
final class Model {
    private static final int BAD = -2, NOT = -3, FULL = -4;
    private static final int[] FIRST = {65, 63, 60, 56, 52, 39, 33, 25, 16, 0};

    private final int[] lengths = {100, 100, 100};
    private final List<int[]> postures = new ArrayList<>();
    private final List<Boolean> out = new ArrayList<>();
    private final List<int[]> pairs = new ArrayList<>();
    private final int[] low = {0, 0, 0};
    private final int[] span = {35, 35, 35};
    private final Object[] sheets = new Object[4];
    private int latest = 0;

    private static int c(int heading) {
        int h = Math.floorMod(heading, 36);
        if (h <= 9) {
            return FIRST[h];
        }
        if (h <= 18) {
            return -c(18 - h);
        }
        return h <= 27 ? -c(h - 18) : c(36 - h);
    }

    private static int s(int heading) {
        return c(heading - 9);
    }

    private static boolean in(int v, int from, int to) {
        return from <= v && v <= to;
    }

    private static long refusal(int r) {
        return Long.MIN_VALUE + -r;
    }

    // the arm

    int turn(int h, int what) {
        return in(h, 0, 35) && in(what, 0, 1) ? (what == 0 ? c(h) : s(h)) : -1000;
    }

    int length(int i, int v) {
        if (!in(i, 0, 2) || !in(v, 1, 999)) {
            return BAD;
        }
        int was = lengths[i];
        lengths[i] = v;
        return was;
    }

    int posture(int a, int b, int c) {
        if (!in(a, 0, 35) || !in(b, 0, 35) || !in(c, 0, 35)) {
            return BAD;
        }
        if (postures.size() == 20) {
            return FULL;
        }
        postures.add(new int[] {a, a + b, a + b + c});
        out.add(false);
        return postures.size() - 1;
    }

    int clear() {
        int were = postures.size();
        postures.clear();
        out.clear();
        return were;
    }

    int hand(int i, int what) {
        if (!in(i, 0, postures.size() - 1) || !in(what, 0, 1)) {
            return Integer.MIN_VALUE;
        }
        int[] h = postures.get(i);
        int sum = 0;
        for (int k = 0; k < 3; k++) {
            sum += lengths[k] * (what == 0 ? c(h[k]) : s(h[k]));
        }
        return sum;
    }

    int mend() {
        if (rank() < 3) {
            return NOT;
        }
        int[] mended = new int[3];
        for (int i = 0; i < 3; i++) {
            long whole = Math.floorDiv(fit(i) + 50, 100L);
            mended[i] = (int) (whole < 1 ? 1 : whole > 999 ? 999 : whole);
        }
        System.arraycopy(mended, 0, lengths, 0, 3);
        return 1;
    }

    // measures

    private Integer item(int sheet, int i) {
        Object row = sheets[sheet];
        if (row == null || i < 0 || i >= size(row)) {
            return null;
        }
        return row instanceof byte[] b ? (int) b[i] : row instanceof short[] sh ? (int) sh[i] : ((int[]) row)[i];
    }

    private static int size(Object row) {
        return row instanceof byte[] b ? b.length : row instanceof short[] sh ? sh.length : ((int[]) row).length;
    }

    private static int form(Object row) {
        return row instanceof byte[] ? 0 : row instanceof short[] ? 1 : 2;
    }

    private int[] measureOf(int i) {
        Integer x = item(0, 2 * i);
        Integer y = item(0, 2 * i + 1);
        boolean such = x != null && y != null && in(x, -9999, 9999) && in(y, -9999, 9999);
        return such ? new int[] {x, y} : null;
    }

    int measure(int i, int what) {
        if (!in(i, 0, postures.size() - 1) || !in(what, 0, 1)) {
            return -10000;
        }
        return measureOf(i) == null ? -10001 : measureOf(i)[what];
    }

    int leave(int i, boolean isOut) {
        if (!in(i, 0, postures.size() - 1)) {
            return BAD;
        }
        out.set(i, isOut);
        return 1;
    }

    private List<Integer> usedOnes() {
        List<Integer> all = new ArrayList<>();
        for (int i = 0; i < postures.size(); i++) {
            if (measureOf(i) != null && !out.get(i)) {
                all.add(i);
            }
        }
        return all.size() > 12 ? all.subList(0, 12) : all;
    }

    int used() {
        return usedOnes().size();
    }

    /** Rows of three coefficients and the right side. */
    private List<long[]> equations(List<Integer> which, boolean withRight) {
        List<long[]> rows = new ArrayList<>();
        for (int i : which) {
            int[] h = postures.get(i);
            int[] m = withRight ? measureOf(i) : new int[2];
            rows.add(new long[] {c(h[0]), c(h[1]), c(h[2]), m[0]});
            rows.add(new long[] {s(h[0]), s(h[1]), s(h[2]), m[1]});
        }
        return rows;
    }

    private static BigInteger[][] normal(List<long[]> rows) {
        BigInteger[][] g = new BigInteger[3][4];
        for (int i = 0; i < 3; i++) {
            for (int j = 0; j < 4; j++) {
                BigInteger sum = BigInteger.ZERO;
                for (long[] row : rows) {
                    sum = sum.add(BigInteger.valueOf(row[i]).multiply(BigInteger.valueOf(row[j])));
                }
                g[i][j] = sum;
            }
        }
        return g;
    }

    private static BigInteger determinant(BigInteger[][] g, int... columns) {
        int[][] orders = {{0, 1, 2, 1}, {1, 2, 0, 1}, {2, 0, 1, 1}, {0, 2, 1, -1}, {1, 0, 2, -1}, {2, 1, 0, -1}};
        BigInteger sum = BigInteger.ZERO;
        for (int[] o : orders) {
            BigInteger product = BigInteger.valueOf(o[3]);
            for (int r = 0; r < 3; r++) {
                product = product.multiply(g[r][columns[o[r]]]);
            }
            sum = sum.add(product);
        }
        return sum;
    }

    private static int rankOf(BigInteger[][] given) {
        BigInteger[][] m = new BigInteger[given.length][];
        for (int r = 0; r < m.length; r++) {
            m[r] = given[r].clone();
        }
        int rank = 0;
        for (int column = 0; column < 3 && rank < m.length; column++) {
            int pivot = rank;
            while (pivot < m.length && m[pivot][column].signum() == 0) {
                pivot++;
            }
            if (pivot == m.length) {
                continue;
            }
            BigInteger[] keep = m[pivot];
            m[pivot] = m[rank];
            m[rank] = keep;
            for (int r = rank + 1; r < m.length; r++) {
                BigInteger by = m[r][column];
                for (int k = 0; k < 3; k++) {
                    m[r][k] = m[r][k].multiply(keep[column]).subtract(keep[k].multiply(by));
                }
            }
            rank++;
        }
        return rank;
    }

    private BigInteger[][] g() {
        return normal(equations(usedOnes(), true));
    }

    long table(int i, int j) {
        return in(i, 0, 2) && in(j, 0, 2) ? g()[i][j].longValueExact() : refusal(BAD);
    }

    int rank() {
        return rankOf(g());
    }

    int told(int i) {
        if (!in(i, 0, 2)) {
            return BAD;
        }
        BigInteger[][] g = g();
        BigInteger[] one = {BigInteger.ZERO, BigInteger.ZERO, BigInteger.ZERO, BigInteger.ZERO};
        one[i] = BigInteger.ONE;
        return rankOf(new BigInteger[][] {g[0], g[1], g[2], one}) == rankOf(g) ? 1 : 0;
    }

    long fit(int i) {
        if (!in(i, 0, 2)) {
            return refusal(BAD);
        }
        if (rank() < 3) {
            return refusal(NOT);
        }
        int[] columns = {0, 1, 2};
        columns[i] = 3;
        BigInteger d = determinant(g(), 0, 1, 2);
        BigInteger[] parts = determinant(g(), columns).multiply(BigInteger.valueOf(6500)).divideAndRemainder(d);
        return parts[0].longValueExact() - (parts[1].signum() < 0 ? 1 : 0);
    }

    int miss(int i) {
        if (!in(i, 0, postures.size() - 1)) {
            return BAD;
        }
        int[] m = measureOf(i);
        return m == null ? NOT : Math.max(Math.abs(hand(i, 0) - 65 * m[0]), Math.abs(hand(i, 1) - 65 * m[1]));
    }

    int worst() {
        int found = -1;
        for (int i : usedOnes()) {
            if (found < 0 || miss(i) > miss(found)) {
                found = i;
            }
        }
        return found;
    }

    // postures

    private long d(int bits) {
        List<Integer> which = new ArrayList<>();
        for (int i = 0; i < 10; i++) {
            if ((bits & (1 << i)) != 0) {
                which.add(i);
            }
        }
        return determinant(normal(equations(which, false)), 0, 1, 2).longValueExact();
    }

    int best(int k) {
        if (!in(k, 1, 4)) {
            return BAD;
        }
        if (postures.size() < k) {
            return NOT;
        }
        int found = -1;
        long most = 0;
        for (int bits = 0; bits < 1024 && bits < 1 << postures.size(); bits++) {
            if (Integer.bitCount(bits) == k && d(bits) > most) {
                found = bits;
                most = d(bits);
            }
        }
        return found;
    }

    long weight(int bits) {
        for (int i = 0; i < 32; i++) {
            if ((bits & (1 << i)) != 0 && (i >= 10 || i >= postures.size())) {
                return refusal(BAD);
            }
        }
        return d(bits);
    }

    // the camera

    int pair(int p, int q, int x, int y) {
        for (int v : new int[] {p, q, x, y}) {
            if (!in(v, -1000, 1000)) {
                return BAD;
            }
        }
        if (pairs.size() == 20) {
            return FULL;
        }
        pairs.add(new int[] {p, q, x, y});
        return pairs.size();
    }

    int shut() {
        int were = pairs.size();
        pairs.clear();
        return were;
    }

    private List<int[]> allAnswers() {
        List<int[]> all = new ArrayList<>();
        for (int h = 0; h < 36; h++) {
            int[] first = null;
            boolean alike = true;
            for (int[] m : pairs) {
                int[] shift = {h, 65 * m[2] - (c(h) * m[0] - s(h) * m[1]), 65 * m[3] - (s(h) * m[0] + c(h) * m[1])};
                first = first == null ? shift : first;
                alike &= first[1] == shift[1] && first[2] == shift[2];
            }
            if (alike) {
                all.add(first == null ? new int[] {h} : first);
            }
        }
        return all;
    }

    int answers() {
        return allAnswers().size();
    }

    int answer(int i, int what) {
        List<int[]> all = allAnswers();
        if (!in(i, 0, all.size() - 1) || !in(what, 0, 2)) {
            return Integer.MIN_VALUE;
        }
        return what > 0 && pairs.isEmpty() ? Integer.MIN_VALUE + 1 : all.get(i)[what];
    }

    // going

    int limit(int joint, int from, int more) {
        if (!in(joint, 0, 2) || !in(from, 0, 35) || !in(more, 0, 35)) {
            return BAD;
        }
        low[joint] = from;
        span[joint] = more;
        return 1;
    }

    private boolean may(int joint, int t) {
        for (int more = 0; more <= span[joint]; more++) {
            if ((low[joint] + more) % 36 == t) {
                return true;
            }
        }
        return false;
    }

    private long[] seek(int x, int y) {
        long[] found = null;
        for (int turns = 0; turns < 36 * 36 * 36; turns++) {
            int ta = turns / 1296;
            int tb = turns / 36 % 36;
            int tc = turns % 36;
            if (!may(0, ta) || !may(1, tb) || !may(2, tc)) {
                continue;
            }
            long dx = lengths[0] * c(ta) + lengths[1] * c(ta + tb) + lengths[2] * c(ta + tb + tc) - 65L * x;
            long dy = lengths[0] * s(ta) + lengths[1] * s(ta + tb) + lengths[2] * s(ta + tb + tc) - 65L * y;
            long squares = dx * dx + dy * dy;
            if (found == null || squares < found[1]) {
                found = new long[] {10000 * ta + 100 * tb + tc, squares};
            }
        }
        return found;
    }

    int nearest(int x, int y) {
        return in(x, -3000, 3000) && in(y, -3000, 3000) ? (int) seek(x, y)[0] : BAD;
    }

    long near(int x, int y) {
        return in(x, -3000, 3000) && in(y, -3000, 3000) ? seek(x, y)[1] : refusal(BAD);
    }

    // drift

    int drift(int sheet, int i, int j, int what) {
        if (!in(sheet, 0, 3) || i > j || i < 0 || j < 0 || !in(what, 0, 2)) {
            return BAD;
        }
        if (sheets[sheet] == null) {
            return find(1);
        }
        if (item(sheet, j) == null) {
            return find(2);
        }
        int n = 0;
        int m = 0;
        for (int at = i; at <= j; at++) {
            int v = item(sheet, at);
            if (v != 0 && n < 50) {
                n++;
                m += v > 0 ? 1 : 0;
            }
        }
        return what == 0 ? n : what == 1 ? m : share(n, Math.min(m, n - m));
    }

    private static int share(int n, int k) {
        BigInteger sum = BigInteger.ZERO;
        for (int t = 0; t <= k; t++) {
            BigInteger over = BigInteger.ONE;
            for (int f = 1; f <= t; f++) {
                over = over.multiply(BigInteger.valueOf(n - f + 1)).divide(BigInteger.valueOf(f));
            }
            sum = sum.add(over);
        }
        BigInteger all = BigInteger.TWO.pow(n);
        return sum.add(sum).min(all).multiply(BigInteger.valueOf(1000000)).divide(all).intValueExact();
    }

    // sheets

    private int find(int number) {
        latest = number;
        return -10 - number;
    }

    int sheet(int which, int form, int n) {
        if (!in(which, 0, 3) || !in(form, 0, 2) || n > 100) {
            return BAD;
        }
        if (n < 0) {
            return find(5);
        }
        sheets[which] = form == 0 ? new byte[n] : form == 1 ? new short[n] : new int[n];
        return n;
    }

    int lose(int which) {
        if (!in(which, 0, 3)) {
            return BAD;
        }
        if (sheets[which] == null) {
            return find(1);
        }
        int had = size(sheets[which]);
        sheets[which] = null;
        return had;
    }

    private int trouble(int which, int form, int i) {
        Object row = sheets[which];
        return row == null ? 1 : form(row) != form ? 3 : i < 0 || i >= size(row) ? 2 : 0;
    }

    int put(int which, int form, int i, int v) {
        if (!in(which, 0, 3) || !in(form, 0, 2)) {
            return BAD;
        }
        int trouble = trouble(which, form, i);
        if (trouble != 0) {
            return find(trouble);
        }
        Object row = sheets[which];
        if (row instanceof byte[] b) {
            b[i] = (byte) v;
        } else if (row instanceof short[] sh) {
            sh[i] = (short) v;
        } else {
            ((int[]) row)[i] = v;
        }
        return 1;
    }

    int get(int which, int form, int i) {
        if (!in(which, 0, 3) || !in(form, 0, 2)) {
            return Integer.MIN_VALUE;
        }
        int trouble = trouble(which, form, i);
        if (trouble != 0) {
            find(trouble);
            return Integer.MIN_VALUE;
        }
        return item(which, i);
    }

    int copy(int from, int i, int to, int j, int n) {
        if (!in(from, 0, 3) || !in(to, 0, 3)) {
            return BAD;
        }
        if (sheets[from] == null || sheets[to] == null) {
            return find(1);
        }
        if (form(sheets[from]) != form(sheets[to])) {
            return find(4);
        }
        boolean below = i < 0 || j < 0 || n < 0;
        if (below || (long) i + n > size(sheets[from]) || (long) j + n > size(sheets[to])) {
            return find(2);
        }
        List<Integer> asTheyWere = new ArrayList<>();
        for (int k = 0; k < n; k++) {
            asTheyWere.add(item(from, i + k));
        }
        for (int k = 0; k < n; k++) {
            put(to, form(sheets[to]), j + k, asTheyWere.get(k));
        }
        return 1;
    }

    int count(int what) {
        int there = 0;
        for (Object row : sheets) {
            there += row == null ? 0 : 1;
        }
        int left = 0;
        for (boolean isOut : out) {
            left += isOut ? 1 : 0;
        }
        int[] counts = {postures.size(), left, pairs.size(), there, 4 - there, latest};
        return in(what, 0, 5) ? counts[what] : BAD;
    }

    long digest() {
        List<Long> parts = new ArrayList<>();
        for (int what = 0; what < 5; what++) {
            parts.add((long) count(what));
        }
        for (int v : lengths) {
            parts.add((long) v);
        }
        for (int i = 0; i < postures.size(); i++) {
            parts.add((long) hand(i, 0));
            parts.add((long) hand(i, 1));
        }
        for (int cell = 0; cell < 9; cell++) {
            parts.add(table(cell / 3, cell % 3));
        }
        parts.add((long) rank());
        parts.add((long) answers());
        long h = 17;
        for (long part : parts) {
            h = 31 * h + part;
        }
        return h;
    }
}
