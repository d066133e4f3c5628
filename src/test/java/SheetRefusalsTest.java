/** "They change nothing else": each refused call of promises 19 to 33, on objects with many pasts. */
final class SheetRefusalsTest {
    private static final int LEAST = Integer.MIN_VALUE, GREATEST = Integer.MAX_VALUE;
    private static final long LONG_BAD = Long.MIN_VALUE + 2;
    private static final int NULL = 1, INDEX = 2, CAST = 3, STORE = 4, SIZE = 5;
    private static final int[] NO_SHEET = {LEAST, -1, 4, GREATEST};
    private static final int[] NO_FORM = {LEAST, -1, 3, GREATEST};

    public static void main(String[] args) {
        pairs();
        answers();
        limits();
        places();
        driftIsBad();
        driftFinds();
        sheets();
        losing();
        itemsAreBad();
        itemsFind();
        copyIsBad();
        copyFinds();
        counts();
        callsThatOnlyTell();
        Due.end();
    }

    /** With twenty pairs too: BAD stands before FULL. */
    private static void pairs() {
        for (int v : new int[] {LEAST, -1001, 1001, GREATEST}) {
            Twins.keepsInAll("pair(" + v + ", 0, 0, 0)", x -> x.pair(v, 0, 0, 0), -2);
            Twins.keepsInAll("pair(0, " + v + ", 0, 0)", x -> x.pair(0, v, 0, 0), -2);
            Twins.keepsInAll("pair(0, 0, " + v + ", 0)", x -> x.pair(0, 0, v, 0), -2);
            Twins.keepsInAll("pair(0, 0, 0, " + v + ")", x -> x.pair(0, 0, 0, v), -2);
        }
        Twins.keeps(Pasts.FULL, "pair(0, 0, 0, 0)", x -> x.pair(0, 0, 0, 0), -4);
        Twins.keeps(Pasts.FULL, "pair(1000, ..)", x -> x.pair(1000, -1000, 1000, -1000), -4);
    }

    /** In the middle and full past heading 9 alone is an answer. */
    private static void answers() {
        for (int what = 0; what < 3; what++) {
            int part = what;
            for (int i : new int[] {LEAST, -1, 36, GREATEST}) {
                Twins.keepsInAll("answer(" + i + ", " + what + "), BAD before NOT", x -> x.answer(i, part), LEAST);
            }
            Twins.keeps(Pasts.MIDDLE, "answer(1, " + what + ") of one", x -> x.answer(1, part), LEAST);
            Twins.keeps(Pasts.FULL, "answer(1, " + what + ") of one", x -> x.answer(1, part), LEAST);
        }
        for (int what : new int[] {LEAST, -1, 3, GREATEST}) {
            Twins.keepsInAll("answer(0, " + what + ")", x -> x.answer(0, what), LEAST);
        }
        for (int what = 1; what < 3; what++) {
            int part = what;
            Twins.keeps(Pasts.NEW, "answer(0, " + what + ") without pairs", x -> x.answer(0, part), LEAST + 1);
            Twins.keeps(Pasts.EMPTIED, "answer(35, " + what + ") without pairs", x -> x.answer(35, part), LEAST + 1);
        }
    }

    private static void limits() {
        for (int joint : new int[] {LEAST, -1, 3, GREATEST}) {
            Twins.keepsInAll("limit(" + joint + ", 0, 0)", x -> x.limit(joint, 0, 0), -2);
        }
        for (int v : new int[] {LEAST, -1, 36, GREATEST}) {
            for (int joint = 0; joint < 3; joint++) {
                int k = joint;
                Twins.keepsInAll("limit(" + k + ", " + v + ", 0)", x -> x.limit(k, v, 0), -2);
                Twins.keepsInAll("limit(" + k + ", 0, " + v + ")", x -> x.limit(k, 0, v), -2);
            }
        }
    }

    private static void places() {
        for (int v : new int[] {LEAST, -3001, 3001, GREATEST}) {
            Twins.keepsInAll("nearest(" + v + ", 0)", x -> x.nearest(v, 0), -2);
            Twins.keepsInAll("nearest(0, " + v + ")", x -> x.nearest(0, v), -2);
            Twins.keepsInAll("near(" + v + ", 0)", x -> x.near(v, 0), LONG_BAD);
            Twins.keepsInAll("near(0, " + v + ")", x -> x.near(0, v), LONG_BAD);
        }
    }

    /** On lost sheets and on items that are not there too: BAD stands before the findings. */
    private static void driftIsBad() {
        for (int s : NO_SHEET) {
            Twins.keepsInAll("drift(" + s + ", 0, 0, 0)", x -> x.drift(s, 0, 0, 0), -2);
        }
        for (int what : new int[] {LEAST, -1, 3, GREATEST}) {
            Twins.keepsInAll("drift(1, 0, 0, " + what + ")", x -> x.drift(1, 0, 0, what), -2);
            Twins.keepsInAll("drift(2, 0, 0, " + what + ")", x -> x.drift(2, 0, 0, what), -2);
            Twins.keepsInAll("drift(1, 0, 100, " + what + ")", x -> x.drift(1, 0, 100, what), -2);
        }
        int[][] wrong = {{1, 0}, {-1, 0}, {-1, -1}, {0, -1}, {-2, -1}, {LEAST, 0}, {LEAST, GREATEST}, {0, LEAST},
            {GREATEST, 0}, {101, 100}, {GREATEST, GREATEST - 1}};
        for (int[] w : wrong) {
            for (int s = 0; s < 4; s++) {
                int of = s;
                Twins.keepsInAll("drift(" + s + ", " + w[0] + ", " + w[1] + ", 0)", x -> x.drift(of, w[0], w[1], 0), -2);
            }
        }
    }

    private static void driftFinds() {
        for (int what = 0; what < 3; what++) {
            int k = what;
            Twins.finds(Pasts.NEW, "drift(0, 0, 0, " + k + ")", x -> x.drift(0, 0, 0, k), -11, NULL);
            Twins.finds(Pasts.EMPTIED, "drift(1, 0, 0, " + k + ")", x -> x.drift(1, 0, 0, k), -11, NULL);
            Twins.finds(Pasts.MIDDLE, "drift(2, 0, 100, " + k + "), NULL before INDEX", x -> x.drift(2, 0, 100, k), -11, NULL);
            Twins.finds(Pasts.MIDDLE, "drift(1, 0, 7, " + k + ") of 7", x -> x.drift(1, 0, 7, k), -12, INDEX);
            Twins.finds(Pasts.MIDDLE, "drift(1, 7, 7, " + k + ") of 7", x -> x.drift(1, 7, 7, k), -12, INDEX);
            Twins.finds(Pasts.MIDDLE, "drift(3, 0, 0, " + k + ") of 0", x -> x.drift(3, 0, 0, k), -12, INDEX);
            Twins.finds(Pasts.FULL, "drift(3, 0, 100, " + k + ")", x -> x.drift(3, 0, 100, k), -12, INDEX);
            Twins.finds(Pasts.FULL, "drift(3, 0, greatest, " + k + ")", x -> x.drift(3, 0, GREATEST, k), -12, INDEX);
        }
    }

    private static void sheets() {
        for (int s : NO_SHEET) {
            Twins.keepsInAll("sheet(" + s + ", 0, 1)", x -> x.sheet(s, 0, 1), -2);
            Twins.keepsInAll("sheet(" + s + ", 0, -1), BAD before SIZE", x -> x.sheet(s, 0, -1), -2);
        }
        for (int form : NO_FORM) {
            Twins.keepsInAll("sheet(0, " + form + ", 1)", x -> x.sheet(0, form, 1), -2);
            Twins.keepsInAll("sheet(0, " + form + ", -1), BAD before SIZE", x -> x.sheet(0, form, -1), -2);
        }
        for (int s = 0; s < 4; s++) {
            for (int form = 0; form < 3; form++) {
                sizes(s, form);
            }
        }
    }

    private static void sizes(int s, int form) {
        String of = "sheet(" + s + ", " + form + ", ";
        Twins.keepsInAll(of + "101)", x -> x.sheet(s, form, 101), -2);
        Twins.keepsInAll(of + "greatest)", x -> x.sheet(s, form, GREATEST), -2);
        for (int past = 0; past < Pasts.COUNT; past++) {
            Twins.finds(past, of + "-1)", x -> x.sheet(s, form, -1), -15, SIZE);
            Twins.finds(past, of + "least)", x -> x.sheet(s, form, LEAST), -15, SIZE);
        }
    }

    private static void losing() {
        for (int s : NO_SHEET) {
            Twins.keepsInAll("lose(" + s + ")", x -> x.lose(s), -2);
        }
        for (int s = 0; s < 4; s++) {
            int of = s;
            Twins.finds(Pasts.NEW, "lose(" + s + ")", x -> x.lose(of), -11, NULL);
            Twins.finds(Pasts.EMPTIED, "lose(" + s + ")", x -> x.lose(of), -11, NULL);
        }
        Twins.finds(Pasts.MIDDLE, "lose(2)", x -> x.lose(2), -11, NULL);
    }

    /** On lost sheets, other forms and items that are not there too. */
    private static void itemsAreBad() {
        for (int i : new int[] {0, -1, 100}) {
            for (int s : NO_SHEET) {
                Twins.keepsInAll("put(" + s + ", 0, " + i + ", 1)", x -> x.put(s, 0, i, 1), -2);
                Twins.keepsInAll("get(" + s + ", 0, " + i + ")", x -> x.get(s, 0, i), LEAST);
            }
            for (int form : NO_FORM) {
                Twins.keepsInAll("put(1, " + form + ", " + i + ", 1)", x -> x.put(1, form, i, 1), -2);
                Twins.keepsInAll("put(2, " + form + ", " + i + ", 1)", x -> x.put(2, form, i, 1), -2);
                Twins.keepsInAll("get(1, " + form + ", " + i + ")", x -> x.get(1, form, i), LEAST);
                Twins.keepsInAll("get(2, " + form + ", " + i + ")", x -> x.get(2, form, i), LEAST);
            }
        }
    }

    private static void itemsFind() {
        for (int i : new int[] {LEAST, -1, 0, 6, 7, 100, GREATEST}) {
            for (int form = 0; form < 3; form++) {
                item(Pasts.NEW, 0, form, i, NULL);
                item(Pasts.EMPTIED, 3, form, i, NULL);
                item(Pasts.MIDDLE, 2, form, i, NULL);
            }
            item(Pasts.MIDDLE, 0, 0, i, CAST);
            item(Pasts.MIDDLE, 0, 1, i, CAST);
            item(Pasts.MIDDLE, 1, 1, i, CAST);
            item(Pasts.MIDDLE, 1, 2, i, CAST);
            item(Pasts.MIDDLE, 3, 0, i, CAST);
            item(Pasts.MIDDLE, 3, 2, i, CAST);
            item(Pasts.MIDDLE, 3, 1, i, INDEX);
        }
        for (int i : new int[] {LEAST, -1, 100, GREATEST}) {
            item(Pasts.FULL, 0, 2, i, INDEX);
            item(Pasts.FULL, 1, 1, i, INDEX);
            item(Pasts.FULL, 3, 0, i, INDEX);
        }
        item(Pasts.MIDDLE, 1, 0, 7, INDEX);
        item(Pasts.MIDDLE, 0, 2, 11, INDEX);
    }

    private static void item(int past, int s, int form, int i, int number) {
        String of = "(" + s + ", " + form + ", " + i;
        Twins.finds(past, "put" + of + ", 9)", x -> x.put(s, form, i, 9), -10 - number, number);
        Twins.finds(past, "get" + of + ")", x -> x.get(s, form, i), LEAST, number);
    }

    /** On lost sheets, unlike forms and items that are not there too. */
    private static void copyIsBad() {
        for (int s : NO_SHEET) {
            for (int n : new int[] {1, -1, 101}) {
                Twins.keepsInAll("copy(" + s + ", 0, 1, 0, " + n + ")", x -> x.copy(s, 0, 1, 0, n), -2);
                Twins.keepsInAll("copy(1, 0, " + s + ", 0, " + n + ")", x -> x.copy(1, 0, s, 0, n), -2);
                Twins.keepsInAll("copy(" + s + ", 0, 2, 0, " + n + ")", x -> x.copy(s, 0, 2, 0, n), -2);
                Twins.keepsInAll("copy(2, 0, " + s + ", 0, " + n + ")", x -> x.copy(2, 0, s, 0, n), -2);
            }
        }
    }

    private static void copyFinds() {
        for (int n : new int[] {0, 1, -1, 101}) {
            copied(Pasts.NEW, 0, 0, 0, n, NULL);
            copied(Pasts.EMPTIED, 0, 1, 0, n, NULL);
            copied(Pasts.MIDDLE, 2, 0, 0, n, NULL);
            copied(Pasts.MIDDLE, 0, 2, 0, n, NULL);
            copied(Pasts.MIDDLE, 2, 2, 0, n, NULL);
            copied(Pasts.MIDDLE, 0, 1, 0, n, STORE);
            copied(Pasts.MIDDLE, 1, 0, -1, n, STORE);
            copied(Pasts.MIDDLE, 1, 3, 100, n, STORE);
            copied(Pasts.FULL, 1, 2, 0, n, STORE);
            copied(Pasts.FULL, 1, 1, -1, n, INDEX);
            copied(Pasts.FULL, 1, 1, 101, n, INDEX);
            copied(Pasts.FULL, 1, 1, LEAST, n, INDEX);
            copied(Pasts.FULL, 1, 1, GREATEST, n, INDEX);
        }
        for (int n : new int[] {LEAST, -1, 8, GREATEST}) {
            copied(Pasts.MIDDLE, 1, 1, 0, n, INDEX);
        }
        copied(Pasts.MIDDLE, 1, 1, 1, 7, INDEX);
        copied(Pasts.MIDDLE, 1, 1, 7, 1, INDEX);
        copied(Pasts.MIDDLE, 3, 3, 0, 1, INDEX);
        copied(Pasts.FULL, 2, 2, 99, 2, INDEX);
    }

    private static void copied(int past, int s, int t, int i, int n, int number) {
        String from = "copy(" + s + ", " + i + ", " + t + ", 0, " + n + ")";
        String to = "copy(" + s + ", 0, " + t + ", " + i + ", " + n + ")";
        Twins.finds(past, from, x -> x.copy(s, i, t, 0, n), -10 - number, number);
        Twins.finds(past, to, x -> x.copy(s, 0, t, i, n), -10 - number, number);
    }

    private static void counts() {
        for (int what : new int[] {LEAST, -1, 6, GREATEST}) {
            Twins.keepsInAll("count(" + what + ")", x -> x.count(what), -2);
        }
    }

    private static void callsThatOnlyTell() {
        Twins.onlyTells("answers()", TrueArms::answers);
        Twins.onlyTells("answer(0, 0)", x -> x.answer(0, 0));
        Twins.onlyTells("answer(0, 2)", x -> x.answer(0, 2));
        Twins.onlyTells("nearest(100, -200)", x -> x.nearest(100, -200));
        Twins.onlyTells("near(100, -200)", x -> x.near(100, -200));
        Twins.onlyTells("digest()", TrueArms::digest);
        for (int what = 0; what < 6; what++) {
            int k = what;
            Twins.onlyTells("count(" + what + ")", x -> x.count(k));
        }
        for (int what = 0; what < 3; what++) {
            int k = what;
            Twins.keeps(Pasts.MIDDLE, "drift(1, 0, 6, " + k + ")", x -> x.drift(1, 0, 6, k), new int[] {3, 2, 1000000}[k]);
        }
        Twins.keeps(Pasts.MIDDLE, "get(1, 0, 6)", x -> x.get(1, 0, 6), 7);
        Twins.keeps(Pasts.FULL, "get(3, 0, 99)", x -> x.get(3, 0, 99), -4);
    }
}
