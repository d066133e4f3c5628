import java.util.Arrays;

/**
 * An arm of three links, its measures, its camera and its sheets. The document's promises say what
 * each call answers; every row is made with the object, so that no call makes anything new.
 */
public final class TrueArms {
    public static final int NONE = -1, BAD = -2, NOT = -3, FULL = -4;

    private static final int LEAST_INT = -2147483648;
    private static final long LEAST_LONG = -9223372036854775808L;

    private static final int BAD_TURN = -1000;
    private static final int BAD_MEASURE = -10000;
    private static final int NO_MEASURE = -10001;

    private static final int MOST_USED = 12;
    private static final int MOST_CHOSEN_FROM = 10;
    private static final int MOST_CHOSEN = 4;
    private static final int SHEETS = 4;

    private static final int IS_NULL = 1, IS_INDEX = 2, IS_CAST = 3, IS_STORE = 4, IS_SIZE = 5;

    private final Arm arm = new Arm();
    private final boolean[] leftOut = new boolean[Arm.MOST_POSTURES];
    private final int[] usedOnes = new int[MOST_USED];
    private final Sums sums = new Sums();
    private final Camera camera = new Camera();
    private final Going going = new Going();
    private final Signs signs = new Signs();
    private final Sheet[] sheets = new Sheet[SHEETS];
    private int latestFinding = 0;

    public TrueArms() {
        for (int s = 0; s < SHEETS; s++) {
            sheets[s] = new Sheet();
        }
    }

    // ---- the arm

    public int turn(int h, int what) {
        if (!within(h, 0, Headings.LAST) || !within(what, 0, 1)) {
            return BAD_TURN;
        }
        return Headings.part(h, what);
    }

    public int length(int i, int v) {
        if (!within(i, 0, 2) || !within(v, 1, Arm.LONGEST)) {
            return BAD;
        }
        int was = arm.lengths[i];
        arm.lengths[i] = v;
        return was;
    }

    public int posture(int a, int b, int c) {
        if (!within(a, 0, Headings.LAST) || !within(b, 0, Headings.LAST) || !within(c, 0, Headings.LAST)) {
            return BAD;
        }
        if (arm.postures >= Arm.MOST_POSTURES) {
            return FULL;
        }
        return arm.stand(a, b, c);
    }

    public int clear() {
        int were = arm.postures;
        arm.postures = 0;
        for (int i = 0; i < Arm.MOST_POSTURES; i++) {
            leftOut[i] = false;
        }
        return were;
    }

    public int hand(int i, int what) {
        if (!isPosture(i) || !within(what, 0, 1)) {
            return LEAST_INT;
        }
        return arm.reached(i, what);
    }

    public int mend() {
        sumUsed();
        if (sums.rankOfAll() < 3) {
            return NOT;
        }
        for (int i = 0; i < 3; i++) {
            long nearestWhole = Math.floorDiv(sums.fitted(i) + 50, 100L);
            arm.lengths[i] = (int) Math.max(1L, Math.min((long) Arm.LONGEST, nearestWhole));
        }
        return 1;
    }

    // ---- measures

    public int measure(int i, int what) {
        if (!isPosture(i) || !within(what, 0, 1)) {
            return BAD_MEASURE;
        }
        return isMeasured(i) ? measured(i, what) : NO_MEASURE;
    }

    public int leave(int i, boolean out) {
        if (!isPosture(i)) {
            return BAD;
        }
        leftOut[i] = out;
        return 1;
    }

    public int used() {
        return listUsed();
    }

    public long table(int i, int j) {
        if (!within(i, 0, 2) || !within(j, 0, 2)) {
            return LEAST_LONG - BAD;
        }
        sumUsed();
        return sums.cells[3 * i + j];
    }

    public int rank() {
        sumUsed();
        return sums.rankOfAll();
    }

    public int told(int i) {
        if (!within(i, 0, 2)) {
            return BAD;
        }
        sumUsed();
        return sums.tells(i) ? 1 : 0;
    }

    public long fit(int i) {
        if (!within(i, 0, 2)) {
            return LEAST_LONG - BAD;
        }
        sumUsed();
        if (sums.rankOfAll() < 3) {
            return LEAST_LONG - NOT;
        }
        return sums.fitted(i);
    }

    public int miss(int i) {
        if (!isPosture(i)) {
            return BAD;
        }
        return isMeasured(i) ? missOf(i) : NOT;
    }

    public int worst() {
        int count = listUsed();
        int found = NONE;
        int greatest = -1;
        for (int u = 0; u < count; u++) {
            int amount = missOf(usedOnes[u]);
            if (amount > greatest) {
                greatest = amount;
                found = usedOnes[u];
            }
        }
        return found;
    }

    // ---- postures

    public int best(int k) {
        if (!within(k, 1, MOST_CHOSEN)) {
            return BAD;
        }
        if (arm.postures < k) {
            return NOT;
        }
        int found = NONE;
        long greatest = 0;
        int sets = choosableSets();
        for (int bits = 1; bits < sets; bits++) {
            if (Integer.bitCount(bits) == k) {
                long d = weightOf(bits);
                if (d > greatest) {
                    greatest = d;
                    found = bits;
                }
            }
        }
        return found;
    }

    public long weight(int bits) {
        if (!within(bits, 0, choosableSets() - 1)) {
            return LEAST_LONG - BAD;
        }
        return weightOf(bits);
    }

    // ---- the camera

    public int pair(int p, int q, int x, int y) {
        if (!Camera.mayBe(p) || !Camera.mayBe(q) || !Camera.mayBe(x) || !Camera.mayBe(y)) {
            return BAD;
        }
        if (camera.pairs >= Camera.MOST_PAIRS) {
            return FULL;
        }
        return camera.see(p, q, x, y);
    }

    public int shut() {
        int were = camera.pairs;
        camera.pairs = 0;
        return were;
    }

    public int answers() {
        return camera.headingsThatAnswer();
    }

    public int answer(int i, int what) {
        if (i < 0 || !within(what, 0, 2)) {
            return LEAST_INT;
        }
        int h = camera.headingOfAnswer(i);
        if (h == NONE) {
            return LEAST_INT;
        }
        if (what == 0) {
            return h;
        }
        return camera.pairs == 0 ? LEAST_INT + 1 : camera.shift(h, 0, what - 1);
    }

    // ---- going

    public int limit(int joint, int low, int span) {
        if (!within(joint, 0, 2) || !within(low, 0, Headings.LAST) || !within(span, 0, Headings.LAST)) {
            return BAD;
        }
        going.keepWithin(joint, low, span);
        return 1;
    }

    public int nearest(int x, int y) {
        if (!Going.isPlace(x, y)) {
            return BAD;
        }
        going.seek(arm.lengths, x, y);
        return going.foundTurns;
    }

    public long near(int x, int y) {
        if (!Going.isPlace(x, y)) {
            return LEAST_LONG - BAD;
        }
        going.seek(arm.lengths, x, y);
        return going.least;
    }

    // ---- drift

    public int drift(int s, int i, int j, int what) {
        if (!isSheet(s) || i < 0 || i > j || !within(what, 0, 2)) {
            return BAD;
        }
        Sheet row = sheets[s];
        if (row.isLost()) {
            return finding(IS_NULL);
        }
        if (!row.has(j)) {
            return finding(IS_INDEX);
        }
        signs.read(row, i, j);
        if (what == 0) {
            return signs.counted;
        }
        return what == 1 ? signs.above : signs.falseShare();
    }

    // ---- sheets

    public int sheet(int s, int form, int n) {
        if (!isSheet(s) || !Sheet.isForm(form) || n > Sheet.MOST_ITEMS) {
            return BAD;
        }
        if (n < 0) {
            return finding(IS_SIZE);
        }
        sheets[s].begin(form, n);
        return n;
    }

    public int lose(int s) {
        if (!isSheet(s)) {
            return BAD;
        }
        if (sheets[s].isLost()) {
            return finding(IS_NULL);
        }
        return sheets[s].end();
    }

    public int put(int s, int form, int i, int v) {
        if (!isSheet(s) || !Sheet.isForm(form)) {
            return BAD;
        }
        int trouble = troubleWith(sheets[s], form, i);
        if (trouble != 0) {
            return finding(trouble);
        }
        sheets[s].items[i] = Sheet.lowestBits(form, v);
        return 1;
    }

    public int get(int s, int form, int i) {
        if (!isSheet(s) || !Sheet.isForm(form)) {
            return LEAST_INT;
        }
        int trouble = troubleWith(sheets[s], form, i);
        if (trouble != 0) {
            latestFinding = trouble;
            return LEAST_INT;
        }
        return sheets[s].items[i];
    }

    public int copy(int s, int i, int t, int j, int n) {
        if (!isSheet(s) || !isSheet(t)) {
            return BAD;
        }
        Sheet from = sheets[s];
        Sheet to = sheets[t];
        if (from.isLost() || to.isLost()) {
            return finding(IS_NULL);
        }
        if (from.form != to.form) {
            return finding(IS_STORE);
        }
        if (!from.hasRun(i, n) || !to.hasRun(j, n)) {
            return finding(IS_INDEX);
        }
        System.arraycopy(from.items, i, to.items, j, n);
        return 1;
    }

    public int count(int what) {
        switch (what) {
            case 0:
                return arm.postures;
            case 1:
                return countLeftOut();
            case 2:
                return camera.pairs;
            case 3:
                return SHEETS - countLost();
            case 4:
                return countLost();
            case 5:
                return latestFinding;
            default:
                return BAD;
        }
    }

    public long digest() {
        long h = 17;
        for (int what = 0; what <= 4; what++) {
            h = 31 * h + count(what);
        }
        for (int i = 0; i < 3; i++) {
            h = 31 * h + arm.lengths[i];
        }
        for (int i = 0; i < arm.postures; i++) {
            h = 31 * h + arm.reached(i, 0);
            h = 31 * h + arm.reached(i, 1);
        }
        sumUsed();
        for (int cell = 0; cell < 9; cell++) {
            h = 31 * h + sums.cells[cell];
        }
        h = 31 * h + sums.rankOfAll();
        return 31 * h + camera.headingsThatAnswer();
    }

    // ---- what the calls share

    private static boolean within(int v, int low, int high) {
        return v >= low && v <= high;
    }

    private boolean isPosture(int i) {
        return i >= 0 && i < arm.postures;
    }

    private static boolean isSheet(int s) {
        return s >= 0 && s < SHEETS;
    }

    private int finding(int number) {
        latestFinding = number;
        return -10 - number;
    }

    private static int troubleWith(Sheet row, int form, int i) {
        if (row.isLost()) {
            return IS_NULL;
        }
        if (row.form != form) {
            return IS_CAST;
        }
        return row.has(i) ? 0 : IS_INDEX;
    }

    private int countLeftOut() {
        int count = 0;
        for (int i = 0; i < arm.postures; i++) {
            if (leftOut[i]) {
                count++;
            }
        }
        return count;
    }

    private int countLost() {
        int lost = 0;
        for (int s = 0; s < SHEETS; s++) {
            if (sheets[s].isLost()) {
                lost++;
            }
        }
        return lost;
    }

    private boolean isMeasured(int i) {
        return sheets[0].hasMeasureAt(2 * i) && sheets[0].hasMeasureAt(2 * i + 1);
    }

    /** Only for a posture that is measured. */
    private int measured(int i, int what) {
        return sheets[0].items[2 * i + what];
    }

    /** Only for a posture that is measured. */
    private int missOf(int i) {
        int inX = Math.abs(arm.reached(i, 0) - Headings.UNIT * measured(i, 0));
        int inY = Math.abs(arm.reached(i, 1) - Headings.UNIT * measured(i, 1));
        return Math.max(inX, inY);
    }

    private int listUsed() {
        int count = 0;
        for (int i = 0; i < arm.postures && count < MOST_USED; i++) {
            if (!leftOut[i] && isMeasured(i)) {
                usedOnes[count] = i;
                count++;
            }
        }
        return count;
    }

    private void sumUsed() {
        int count = listUsed();
        sums.forget();
        for (int u = 0; u < count; u++) {
            int i = usedOnes[u];
            sums.addLeft(arm, i);
            sums.addRight(arm, i, measured(i, 0), measured(i, 1));
        }
    }

    private int choosableSets() {
        return 1 << Math.min(arm.postures, MOST_CHOSEN_FROM);
    }

    /** Only for bits of postures that are there. */
    private long weightOf(int bits) {
        sums.forget();
        for (int i = 0; i < MOST_CHOSEN_FROM; i++) {
            if ((bits >> i & 1) == 1) {
                sums.addLeft(arm, i);
            }
        }
        return sums.determinant();
    }

    /** C and S of the headings 0 to 35. */
    static final class Headings {
        static final int COUNT = 36;
        static final int LAST = 35;
        /** What C of heading 0 is: places are told in so many parts. */
        static final int UNIT = 65;

        private static final int[] C_OF = {
            65, 63, 60, 56, 52, 39, 33, 25, 16,
            0, -16, -25, -33, -39, -52, -56, -60, -63,
            -65, -63, -60, -56, -52, -39, -33, -25, -16,
            0, 16, 25, 33, 39, 52, 56, 60, 63};

        static int cOf(int h) {
            return C_OF[h];
        }

        static int sOf(int h) {
            return C_OF[h < 9 ? h + 27 : h - 9];
        }

        static int part(int h, int what) {
            return what == 0 ? cOf(h) : sOf(h);
        }

        static int round(int turns) {
            return turns % COUNT;
        }
    }

    /** The lengths, and the postures by the headings of their links. */
    static final class Arm {
        static final int MOST_POSTURES = 20;
        static final int LONGEST = 999;

        final int[] lengths = {100, 100, 100};
        /** Link k of posture i stands at 3 i + k. */
        final int[] headings = new int[3 * MOST_POSTURES];
        /** What posture i adds to the table, at 9 i + 3 row + column: kept, since best() adds it often. */
        final int[] products = new int[9 * MOST_POSTURES];
        int postures = 0;

        int stand(int a, int b, int c) {
            int i = postures;
            headings[3 * i] = a;
            headings[3 * i + 1] = Headings.round(a + b);
            headings[3 * i + 2] = Headings.round(a + b + c);
            for (int row = 0; row < 3; row++) {
                for (int column = 0; column < 3; column++) {
                    products[9 * i + 3 * row + column] = productOf(headings[3 * i + row], headings[3 * i + column]);
                }
            }
            postures++;
            return i;
        }

        private static int productOf(int h, int other) {
            return Headings.cOf(h) * Headings.cOf(other) + Headings.sOf(h) * Headings.sOf(other);
        }

        int reached(int i, int what) {
            int sum = 0;
            for (int k = 0; k < 3; k++) {
                sum += lengths[k] * Headings.part(headings[3 * i + k], what);
            }
            return sum;
        }
    }

    /** The table G with its right side g. All sums stay far inside a long: G below 51,000, g below 11 million. */
    static final class Sums {
        final long[] cells = new long[9];
        private final long[] right = new long[3];
        private final long[] changed = new long[9];

        void forget() {
            Arrays.fill(cells, 0L);
            Arrays.fill(right, 0L);
        }

        void addLeft(Arm arm, int i) {
            for (int cell = 0; cell < 9; cell++) {
                cells[cell] += arm.products[9 * i + cell];
            }
        }

        void addRight(Arm arm, int i, int x, int y) {
            for (int k = 0; k < 3; k++) {
                int h = arm.headings[3 * i + k];
                right[k] += Headings.cOf(h) * x + Headings.sOf(h) * y;
            }
        }

        long determinant() {
            return determinantOf(cells);
        }

        private static long determinantOf(long[] m) {
            return m[0] * (m[4] * m[8] - m[5] * m[7])
                - m[1] * (m[3] * m[8] - m[5] * m[6])
                + m[2] * (m[3] * m[7] - m[4] * m[6]);
        }

        private long determinantWithRight(int column) {
            for (int cell = 0; cell < 9; cell++) {
                changed[cell] = cell % 3 == column ? right[cell / 3] : cells[cell];
            }
            return determinantOf(changed);
        }

        /** G is a sum of squares, so the minors about its diagonal alone tell the rank. */
        int rankOfAll() {
            if (determinant() != 0) {
                return 3;
            }
            return Math.max(rankWithout(0), Math.max(rankWithout(1), rankWithout(2)));
        }

        private int rankWithout(int i) {
            int j = i == 0 ? 1 : 0;
            int k = i == 2 ? 1 : 2;
            long first = cells[4 * j];
            long second = cells[4 * k];
            long across = cells[3 * j + k];
            if (first * second != across * across) {
                return 2;
            }
            return first != 0 || second != 0 ? 1 : 0;
        }

        /** A length is told just if the equations lose rank without it. */
        boolean tells(int i) {
            return rankWithout(i) < rankOfAll();
        }

        /**
         * Only for rank 3. 6500 times D i may pass a long, so the whole part is taken out first; what is
         * left is below D, and the rounding is still that of one division.
         */
        long fitted(int i) {
            long d = determinant();
            if (d == 0) {
                return 0;
            }
            long dOfLength = determinantWithRight(i);
            long whole = Math.floorDiv(dOfLength, d);
            long rest = dOfLength - whole * d;
            return 6500 * whole + Math.floorDiv(6500 * rest, d);
        }
    }

    /** The pairs, and the headings under which they all ask for one shift. */
    static final class Camera {
        static final int MOST_PAIRS = 20;
        private static final int FARTHEST = 1000;

        private final int[] ownP = new int[MOST_PAIRS];
        private final int[] ownQ = new int[MOST_PAIRS];
        private final int[] armX = new int[MOST_PAIRS];
        private final int[] armY = new int[MOST_PAIRS];
        int pairs = 0;

        static boolean mayBe(int v) {
            return v >= -FARTHEST && v <= FARTHEST;
        }

        int see(int p, int q, int x, int y) {
            ownP[pairs] = p;
            ownQ[pairs] = q;
            armX[pairs] = x;
            armY[pairs] = y;
            pairs++;
            return pairs;
        }

        int shift(int h, int i, int what) {
            int c = Headings.cOf(h);
            int s = Headings.sOf(h);
            if (what == 0) {
                return Headings.UNIT * armX[i] - c * ownP[i] + s * ownQ[i];
            }
            return Headings.UNIT * armY[i] - s * ownP[i] - c * ownQ[i];
        }

        private boolean isAnswer(int h) {
            for (int i = 1; i < pairs; i++) {
                if (shift(h, i, 0) != shift(h, 0, 0) || shift(h, i, 1) != shift(h, 0, 1)) {
                    return false;
                }
            }
            return true;
        }

        int headingsThatAnswer() {
            int count = 0;
            for (int h = 0; h < Headings.COUNT; h++) {
                if (isAnswer(h)) {
                    count++;
                }
            }
            return count;
        }

        int headingOfAnswer(int i) {
            int before = 0;
            for (int h = 0; h < Headings.COUNT; h++) {
                if (isAnswer(h)) {
                    if (before == i) {
                        return h;
                    }
                    before++;
                }
            }
            return NONE;
        }
    }

    /** The limits, and the search for the posture that comes nearest. */
    static final class Going {
        private static final int FARTHEST = 3000;
        private static final long MORE_THAN_ANY = 1L << 60;

        /** Whether joint k may turn by t stands at 36 k + t. */
        private final boolean[] may = new boolean[3 * Headings.COUNT];
        private int lastLength = 0;
        int foundTurns = 0;
        long least = 0;

        Going() {
            for (int t = 0; t < may.length; t++) {
                may[t] = true;
            }
        }

        static boolean isPlace(int x, int y) {
            return x >= -FARTHEST && x <= FARTHEST && y >= -FARTHEST && y <= FARTHEST;
        }

        void keepWithin(int joint, int low, int span) {
            for (int t = 0; t < Headings.COUNT; t++) {
                may[Headings.COUNT * joint + t] = Headings.round(t + Headings.COUNT - low) <= span;
            }
        }

        /** Goes through the turns upwards and takes only what is truly nearer: so the least turns win. */
        void seek(int[] lengths, int x, int y) {
            least = MORE_THAN_ANY;
            lastLength = lengths[2];
            for (int a = 0; a < Headings.COUNT; a++) {
                if (may[a]) {
                    int restX = Headings.UNIT * x - lengths[0] * Headings.cOf(a);
                    int restY = Headings.UNIT * y - lengths[0] * Headings.sOf(a);
                    seekSecond(a, lengths[1], restX, restY);
                }
            }
        }

        private void seekSecond(int a, int length, int wayX, int wayY) {
            for (int b = 0; b < Headings.COUNT; b++) {
                if (may[Headings.COUNT + b]) {
                    int h = Headings.round(a + b);
                    int restX = wayX - length * Headings.cOf(h);
                    int restY = wayY - length * Headings.sOf(h);
                    if (atLeastLeft(restX, restY) < least) {
                        seekThird(100 * (100 * a + b), h, restX, restY);
                    }
                }
            }
        }

        private void seekThird(int turns, int second, int wayX, int wayY) {
            for (int c = 0; c < Headings.COUNT; c++) {
                if (may[2 * Headings.COUNT + c]) {
                    int h = Headings.round(second + c);
                    long restX = wayX - lastLength * Headings.cOf(h);
                    long restY = wayY - lastLength * Headings.sOf(h);
                    long squares = restX * restX + restY * restY;
                    if (squares < least) {
                        least = squares;
                        foundTurns = turns + c;
                    }
                }
            }
        }

        /**
         * No third link of any heading leaves less than this: it would point straight along the way, whose
         * length is at most its greater side and half its lesser one. It spares most third loops.
         */
        private long atLeastLeft(int wayX, int wayY) {
            long greater = Math.max(Math.abs(wayX), Math.abs(wayY));
            long lesser = Math.min(Math.abs(wayX), Math.abs(wayY));
            long reach = (long) Headings.UNIT * lastLength;
            return greater * greater + lesser * lesser + reach * reach - reach * (2 * greater + lesser);
        }
    }

    /** The signs of a run of items. */
    static final class Signs {
        private static final int MOST_COUNTED = 50;

        int counted = 0;
        int above = 0;

        /** Only for items that are there. */
        void read(Sheet row, int first, int last) {
            counted = 0;
            above = 0;
            for (int at = first; at <= last && counted < MOST_COUNTED; at++) {
                if (row.items[at] != 0) {
                    counted++;
                }
                if (row.items[at] > 0) {
                    above++;
                }
            }
        }

        int falseShare() {
            long all = 1L << counted;
            return millionths(Math.min(all, 2 * rowsUpTo(Math.min(above, counted - above))), counted);
        }

        private long rowsUpTo(int k) {
            long chosen = 1;
            long sum = 1;
            for (int t = 1; t <= k; t++) {
                chosen = chosen * (counted - t + 1) / t;
                sum += chosen;
            }
            return sum;
        }

        /** A million times 2 to the 50 passes a long, so it goes by thousandths twice. */
        private static int millionths(long part, int bits) {
            long thousandths = part * 1000 >> bits;
            long rest = part * 1000 - (thousandths << bits);
            return (int) (1000 * thousandths + (rest * 1000 >> bits));
        }
    }

    /** A row of a form, or none. Its items are kept as ints that the form has cut. */
    static final class Sheet {
        static final int MOST_ITEMS = 100;
        private static final int LOST = -1;
        private static final int BYTES = 0;
        private static final int SHORTS = 1;
        private static final int INTS = 2;
        private static final int GREATEST_MEASURE = 9999;

        final int[] items = new int[MOST_ITEMS];
        int form = LOST;
        private int size = 0;

        static boolean isForm(int form) {
            return form >= BYTES && form <= INTS;
        }

        static int lowestBits(int form, int v) {
            if (form == BYTES) {
                return (byte) v;
            }
            return form == SHORTS ? (short) v : v;
        }

        boolean isLost() {
            return form == LOST;
        }

        void begin(int newForm, int n) {
            form = newForm;
            size = n;
            Arrays.fill(items, 0);
        }

        int end() {
            int had = size;
            form = LOST;
            size = 0;
            return had;
        }

        boolean has(int i) {
            return i >= 0 && i < size;
        }

        /** Written so that no sum can wrap. */
        boolean hasRun(int i, int n) {
            return i >= 0 && n >= 0 && n <= size - i;
        }

        boolean hasMeasureAt(int i) {
            return has(i) && items[i] >= -GREATEST_MEASURE && items[i] <= GREATEST_MEASURE;
        }
    }
}
