import java.math.BigInteger;
import java.util.ArrayList;
import java.util.List;

/** The boundary cases of the document's seventh part and of promises 27 to 33, a sentence each. */
final class SheetEdgesTest {
    private static final int LEAST = Integer.MIN_VALUE, GREATEST = Integer.MAX_VALUE;

    public static void main(String[] args) {
        allAreLostAtFirst();
        sheetsAre0To3();
        formsAre0To2();
        itemsAre0To100();
        itemsAre0AtFirst();
        aNewRowTakesTheOldOnesPlace();
        sizeBelow0();
        loseTellsHowMany();
        losingOneKeepsTheOthers();
        itemsOfTheFirstAndLast();
        lowestBitsOfEachForm();
        putNullCastIndex();
        getNullCastIndex();
        copyOfNone();
        copyOfAll();
        copyAsTheyWere();
        copyNotSoMany();
        copyBelow0();
        copyNullStoreIndex();
        countsOfNoneAndAll();
        theLatestFinding();
        digestOfNew();
        digestOfFull();
        digestWraps();
        digestLeavesOutTheRest();
        Due.end();
    }

    /** "SHEETS 0 .. 3 are LOST (at first)"; "all SHEETS are LOST" */
    private static void allAreLostAtFirst() {
        TrueArms x = new TrueArms();
        Due.is("count(3)", x.count(3), 0);
        Due.is("count(4)", x.count(4), 4);
        for (int s = 0; s < 4; s++) {
            Due.is("lose(" + s + ")", x.lose(s), -11);
        }
    }

    private static void sheetsAre0To3() {
        TrueArms x = new TrueArms();
        for (int s = 0; s < 4; s++) {
            Due.is("sheet(" + s + ", 0, 3)", x.sheet(s, 0, 3), 3);
            Due.is("count(3)", x.count(3), s + 1);
            Due.is("count(4)", x.count(4), 3 - s);
        }
        int[] wrong = {LEAST, -1, 4, GREATEST};
        for (int s : wrong) {
            Due.is("sheet(" + s + ", ..)", x.sheet(s, 0, 3), -2);
            Due.is("lose(" + s + ")", x.lose(s), -2);
            Due.is("put(" + s + ", ..)", x.put(s, 0, 0, 0), -2);
            Due.is("get(" + s + ", ..)", x.get(s, 0, 0), LEAST);
            Due.is("copy(" + s + ", ..)", x.copy(s, 0, 0, 0, 0), -2);
            Due.is("copy(.., " + s + ", ..)", x.copy(0, 0, s, 0, 0), -2);
        }
        Due.is("no finding", x.count(5), 0);
        Due.is("all are there", x.count(3), 4);
    }

    /** "a row of a FORM: 0 bytes, 1 shorts, 2 ints" */
    private static void formsAre0To2() {
        TrueArms x = new TrueArms();
        int[] wrong = {LEAST, -1, 3, GREATEST};
        for (int form : wrong) {
            Due.is("sheet(0, " + form + ", 3)", x.sheet(0, form, 3), -2);
            Due.is("put(0, " + form + ", ..) of a lost sheet", x.put(0, form, 0, 0), -2);
            Due.is("get(0, " + form + ", ..) of a lost sheet", x.get(0, form, 0), LEAST);
        }
        Due.is("no finding", x.count(5), 0);
        Due.is("it is still lost", x.count(4), 4);
        for (int form = 0; form < 3; form++) {
            Due.is("sheet(0, " + form + ", 3)", x.sheet(0, form, 3), 3);
            for (int as = 0; as < 3; as++) {
                Due.is("form " + form + " put as " + as, x.put(0, as, 0, 1), as == form ? 1 : -13);
            }
        }
    }

    /** "of 0 to 100 items"; "n items: n. BAD: SHEET, FORM, above 100; SIZE." */
    private static void itemsAre0To100() {
        int[] sizes = {0, 1, 99, 100, 101, GREATEST, -1, LEAST};
        int[] due = {0, 1, 99, 100, -2, -2, -15, -15};
        for (int form = 0; form < 3; form++) {
            for (int k = 0; k < sizes.length; k++) {
                TrueArms x = new TrueArms();
                Due.is("sheet(3, " + form + ", " + sizes[k] + ")", x.sheet(3, form, sizes[k]), due[k]);
                Due.is("it is there", x.count(3), due[k] >= 0 ? 1 : 0);
                Due.is("count(5)", x.count(5), due[k] == -15 ? 5 : 0);
                if (due[k] >= 0) {
                    Due.is("its last item", x.put(3, form, sizes[k] - 1, 1), sizes[k] == 0 ? -12 : 1);
                    Due.is("the next", x.put(3, form, sizes[k], 1), -12);
                    Due.is("lose(3)", x.lose(3), sizes[k]);
                }
            }
        }
    }

    /** "(0 at first)" */
    private static void itemsAre0AtFirst() {
        for (int form = 0; form < 3; form++) {
            TrueArms x = new TrueArms();
            x.sheet(2, form, 100);
            for (int i = 0; i < 100; i++) {
                Due.is("item " + i, x.get(2, form, i), 0);
                x.put(2, form, i, 7);
            }
            x.sheet(2, form, 1);
            x.sheet(2, form, 100);
            for (int i = 0; i < 100; i++) {
                Due.is("item " + i + " of a new row", x.get(2, form, i), 0);
            }
        }
    }

    private static void aNewRowTakesTheOldOnesPlace() {
        TrueArms x = new TrueArms();
        x.sheet(1, 2, 5);
        x.put(1, 2, 4, 300);
        Due.is("another form and size", x.sheet(1, 0, 3), 3);
        Due.is("the old form", x.get(1, 2, 0), LEAST);
        Due.is("is a CAST", x.count(5), 3);
        Due.is("the old last item", x.get(1, 0, 4), LEAST);
        Due.is("is an INDEX", x.count(5), 2);
        Due.is("one sheet is there", x.count(3), 1);
        x.put(1, 0, 2, 5);
        Due.is("the same form and size", x.sheet(1, 0, 3), 3);
        Due.is("is a new row, too", x.get(1, 0, 2), 0);
        Due.is("none", x.sheet(1, 0, 0), 0);
        Due.is("it is there and empty", x.count(3), 1);
        Due.is("lose(1)", x.lose(1), 0);
    }

    /** "5 SIZE: below 0" */
    private static void sizeBelow0() {
        TrueArms x = new TrueArms();
        Due.is("sheet(4, 0, -1)", x.sheet(4, 0, -1), -2);
        Due.is("sheet(0, 3, -1)", x.sheet(0, 3, -1), -2);
        Due.is("count(5)", x.count(5), 0);
        Due.is("sheet(0, 0, -1)", x.sheet(0, 0, -1), -15);
        Due.is("count(5) then", x.count(5), 5);
        Due.is("it is lost", x.count(3), 0);
        Due.is("sheet(0, 0, 0)", x.sheet(0, 0, 0), 0);
        Due.is("count(5) stays", x.count(5), 5);
    }

    /** "It is LOST: how many items it had. BAD; NULL." */
    private static void loseTellsHowMany() {
        int[] sizes = {0, 1, 50, 100};
        for (int s = 0; s < 4; s++) {
            TrueArms x = new TrueArms();
            for (int n : sizes) {
                x.sheet(s, 2, n);
                Due.is("lose(" + s + ") of " + n, x.lose(s), n);
                Due.is("count(4)", x.count(4), 4);
                Due.is("lose(" + s + ") again", x.lose(s), -11);
                Due.is("count(5)", x.count(5), 1);
            }
        }
    }

    private static void losingOneKeepsTheOthers() {
        TrueArms x = new TrueArms();
        for (int s = 0; s < 4; s++) {
            x.sheet(s, 1, 2);
            x.put(s, 1, 1, 10 + s);
        }
        x.lose(2);
        for (int s = 0; s < 4; s++) {
            Due.is("item 1 of sheet " + s, x.get(s, 1, 1), s == 2 ? LEAST : 10 + s);
        }
        x.sheet(2, 1, 2);
        Due.is("what was lost does not come back", x.get(2, 1, 1), 0);
    }

    private static void itemsOfTheFirstAndLast() {
        int[] sizes = {1, 2, 100};
        for (int n : sizes) {
            for (int form = 0; form < 3; form++) {
                TrueArms x = new TrueArms();
                x.sheet(0, form, n);
                Due.is("put first", x.put(0, form, 0, 5), 1);
                Due.is("put last", x.put(0, form, n - 1, 6), 1);
                Due.is("get first", x.get(0, form, 0), n == 1 ? 6 : 5);
                Due.is("get last", x.get(0, form, n - 1), 6);
                int[] wrong = {LEAST, -1, n, n + 1, GREATEST};
                for (int i : wrong) {
                    x.lose(3);
                    Due.is("put(0, " + form + ", " + i + ", 1)", x.put(0, form, i, 1), -12);
                    Due.is("count(5)", x.count(5), 2);
                    x.lose(3);
                    Due.is("get(0, " + form + ", " + i + ")", x.get(0, form, i), LEAST);
                    Due.is("count(5) again", x.count(5), 2);
                }
            }
        }
    }

    /** "becomes v (the lowest bits that it has)" */
    private static void lowestBitsOfEachForm() {
        int[][] due = {{127, 127, 127}, {128, -128, 128}, {-128, -128, -128}, {-129, 127, -129}, {255, -1, 255}, {256, 0, 256},
            {257, 1, 257}, {32767, -1, 32767}, {32768, 0, -32768}, {-32768, 0, -32768}, {-32769, -1, 32767}, {65535, -1, -1},
            {65536, 0, 0}, {65537, 1, 1}, {GREATEST, -1, -1}, {LEAST, 0, 0}, {-1, -1, -1}, {0, 0, 0}};
        TrueArms x = new TrueArms();
        for (int form = 0; form < 3; form++) {
            x.sheet(form, form, 2);
            x.put(form, form, 1, 9);
            for (int[] d : due) {
                Due.is("put of " + d[0], x.put(form, form, 0, d[0]), 1);
                Due.is(d[0] + " as of form " + form, x.get(form, form, 0), form == 2 ? d[0] : d[form + 1]);
            }
            Due.is("the next item stays", x.get(form, form, 1), 9);
        }
        Due.is("an item of the least int is no finding", x.put(2, 2, 0, LEAST) + x.get(2, 2, 0), LEAST + 1);
        Due.is("count(5)", x.count(5), 0);
    }

    /** "BAD; NULL; CAST; INDEX." */
    private static void putNullCastIndex() {
        TrueArms x = new TrueArms();
        x.sheet(1, 1, 3);
        Due.is("all four fit", x.put(4, 3, 9, 0), -2);
        Due.is("BAD by form of a lost sheet", x.put(0, 3, 9, 0), -2);
        Due.is("BAD by form of no item", x.put(1, 3, 9, 0), -2);
        Due.is("NULL and INDEX", x.put(0, 2, 9, 0), -11);
        Due.is("CAST and INDEX", x.put(1, 2, 9, 0), -13);
        Due.is("CAST alone", x.put(1, 0, 0, 0), -13);
        Due.is("INDEX alone", x.put(1, 1, 3, 0), -12);
        Due.is("none", x.put(1, 1, 2, 0), 1);
    }

    /** "BAD: the least int; so are NULL, CAST, INDEX (count() 5 tells)." */
    private static void getNullCastIndex() {
        int[][] calls = {{4, 3, 9, 0}, {0, 3, 9, 0}, {1, 3, 9, 0}, {0, 2, 9, 1}, {0, 1, 0, 1}, {1, 2, 9, 3}, {1, 0, 0, 3}, {1, 1, 3, 2},
            {1, 1, -1, 2}};
        for (int[] c : calls) {
            TrueArms x = new TrueArms();
            x.sheet(1, 1, 3);
            Due.is("get(" + c[0] + ", " + c[1] + ", " + c[2] + ")", x.get(c[0], c[1], c[2]), LEAST);
            Due.is("count(5)", x.count(5), c[3]);
        }
    }

    private static TrueArms two(int first, int second) {
        TrueArms x = new TrueArms();
        x.sheet(0, 0, first);
        x.sheet(1, 0, second);
        for (int i = 0; i < first; i++) {
            x.put(0, 0, i, 1 + i);
        }
        for (int i = 0; i < second; i++) {
            x.put(1, 0, i, -1 - i);
        }
        return x;
    }

    private static void holds(TrueArms x, int s, int... due) {
        for (int i = 0; i < due.length; i++) {
            Due.is("item " + i + " of sheet " + s, x.get(s, 0, i), due[i]);
        }
    }

    private static void copyOfNone() {
        TrueArms x = two(3, 2);
        Due.is("none from the first", x.copy(0, 0, 1, 0, 0), 1);
        Due.is("none behind the last", x.copy(0, 3, 1, 2, 0), 1);
        Due.is("none one further", x.copy(0, 4, 1, 2, 0), -12);
        Due.is("none to one further", x.copy(0, 3, 1, 3, 0), -12);
        Due.is("none from below 0", x.copy(0, -1, 1, 0, 0), -12);
        holds(x, 0, 1, 2, 3);
        holds(x, 1, -1, -2);
        TrueArms empty = two(0, 0);
        Due.is("none of an empty row", empty.copy(0, 0, 1, 0, 0), 1);
        Due.is("one of an empty row", empty.copy(0, 0, 1, 0, 1), -12);
    }

    private static void copyOfAll() {
        TrueArms x = two(3, 3);
        Due.is("all", x.copy(0, 0, 1, 0, 3), 1);
        holds(x, 1, 1, 2, 3);
        holds(x, 0, 1, 2, 3);
        TrueArms full = two(100, 100);
        Due.is("all hundred", full.copy(0, 0, 1, 0, 100), 1);
        Due.is("the first", full.get(1, 0, 0), 1);
        Due.is("the last", full.get(1, 0, 99), 100);
        Due.is("a hundred and one", full.copy(0, 0, 1, 0, 101), -12);
        TrueArms part = two(4, 5);
        Due.is("the last two to the last two", part.copy(0, 2, 1, 3, 2), 1);
        holds(part, 1, -1, -2, -3, 3, 4);
        Due.is("the first two to the first two", part.copy(0, 0, 1, 0, 2), 1);
        holds(part, 1, 1, 2, -3, 3, 4);
    }

    /** "come to SHEET t (perhaps s, as they were)" */
    private static void copyAsTheyWere() {
        for (int i = 0; i <= 6; i++) {
            for (int j = 0; j <= 6; j++) {
                for (int n = 0; n <= 6 - Math.max(i, j); n++) {
                    TrueArms x = two(6, 0);
                    int[] due = {1, 2, 3, 4, 5, 6};
                    System.arraycopy(new int[] {1, 2, 3, 4, 5, 6}, i, due, j, n);
                    Due.is("copy(0, " + i + ", 0, " + j + ", " + n + ")", x.copy(0, i, 0, j, n), 1);
                    holds(x, 0, due);
                }
            }
        }
    }

    /** "INDEX: below 0, not so many." */
    private static void copyNotSoMany() {
        TrueArms x = two(4, 6);
        int[][] wrong = {{0, 0, 5}, {1, 0, 4}, {3, 0, 2}, {4, 0, 1}, {5, 0, 0}, {0, 3, 4}, {0, 5, 2}, {0, 6, 1}, {0, 7, 0},
            {GREATEST, 0, 0}, {0, GREATEST, 0}, {0, 0, GREATEST}, {1, 1, GREATEST}, {GREATEST, GREATEST, GREATEST}, {GREATEST, 0, 1},
            {0, GREATEST, 1}};
        notCopied(x, wrong);
    }

    private static void copyBelow0() {
        TrueArms x = two(4, 6);
        int[][] wrong = {{-1, 0, 0}, {-1, 0, 1}, {0, -1, 0}, {0, -1, 1}, {0, 0, -1}, {4, 6, -1}, {1, 1, -1}, {LEAST, 0, 1}, {0, LEAST, 1},
            {0, 0, LEAST}, {LEAST, LEAST, LEAST}, {-1, -1, 2}, {LEAST, 0, GREATEST}, {LEAST, 0, LEAST}, {-1, 0, GREATEST}};
        notCopied(x, wrong);
    }

    private static void notCopied(TrueArms x, int[][] wrong) {
        for (int[] w : wrong) {
            x.lose(3);
            Due.is("copy(0, " + w[0] + ", 1, " + w[1] + ", " + w[2] + ")", x.copy(0, w[0], 1, w[1], w[2]), -12);
            Due.is("count(5)", x.count(5), 2);
        }
        holds(x, 0, 1, 2, 3, 4);
        holds(x, 1, -1, -2, -3, -4, -5, -6);
    }

    /** "BAD: the SHEETS; NULL: s, t; STORE; INDEX" */
    private static void copyNullStoreIndex() {
        TrueArms x = two(4, 6);
        x.sheet(2, 1, 4);
        Due.is("BAD and NULL", x.copy(4, 0, 3, 0, 1), -2);
        Due.is("NULL and BAD", x.copy(3, 0, 4, 0, 1), -2);
        Due.is("BAD and INDEX", x.copy(0, -1, -1, 0, 1), -2);
        Due.is("no finding", x.count(5), 0);
        Due.is("s is LOST", x.copy(3, 0, 0, 0, 1), -11);
        Due.is("t is LOST", x.copy(0, 0, 3, 0, 1), -11);
        Due.is("both are", x.copy(3, 0, 3, 0, 0), -11);
        Due.is("NULL and INDEX", x.copy(0, -1, 3, 0, 1), -11);
        Due.is("count(5) of NULL", x.count(5), 1);
        Due.is("STORE", x.copy(0, 0, 2, 0, 1), -14);
        Due.is("STORE the other way", x.copy(2, 0, 0, 0, 1), -14);
        Due.is("STORE and INDEX", x.copy(0, -1, 2, 0, 1), -14);
        Due.is("STORE and a number below 0", x.copy(0, 0, 2, 0, -1), -14);
        Due.is("STORE of none", x.copy(0, 0, 2, 0, 0), -14);
        Due.is("count(5) of STORE", x.count(5), 4);
        Due.is("INDEX", x.copy(0, 0, 1, 0, 5), -12);
        holds(x, 0, 1, 2, 3, 4);
        for (int form = 0; form < 3; form++) {
            for (int other = 0; other < 3; other++) {
                x.sheet(0, form, 2);
                x.sheet(1, other, 2);
                Due.is("form " + form + " to " + other, x.copy(0, 0, 1, 0, 2), form == other ? 1 : -14);
            }
        }
    }

    /** "0 POSTURES, 1 of these LEFT OUT, 2 PAIRS, 3, 4 SHEETS that are not LOST, that are, 5 .. BAD." */
    private static void countsOfNoneAndAll() {
        TrueArms x = new TrueArms();
        int[] none = {0, 0, 0, 0, 4, 0};
        for (int what = 0; what < 6; what++) {
            Due.is("count(" + what + ") of a new object", x.count(what), none[what]);
        }
        for (int i = 0; i < 20; i++) {
            x.posture(0, 0, 0);
            x.leave(i, true);
            x.pair(0, 0, 0, 0);
        }
        for (int s = 0; s < 4; s++) {
            x.sheet(s, 0, 0);
        }
        int[] all = {20, 20, 20, 4, 0, 0};
        for (int what = 0; what < 6; what++) {
            Due.is("count(" + what + ") of a full object", x.count(what), all[what]);
        }
        int[] wrong = {LEAST, -1, 6, GREATEST};
        for (int what : wrong) {
            Due.is("count(" + what + ")", x.count(what), -2);
        }
    }

    /** "5 the number of the latest FINDING (0 before any)"; "answers -10 less the number" */
    private static void theLatestFinding() {
        TrueArms x = new TrueArms();
        x.sheet(0, 0, 1);
        x.sheet(1, 1, 1);
        Due.is("before any", x.count(5), 0);
        Due.is("NULL", x.lose(3), -11);
        Due.is("1", x.count(5), 1);
        Due.is("INDEX", x.put(0, 0, 1, 0), -12);
        Due.is("2", x.count(5), 2);
        Due.is("CAST", x.put(0, 1, 0, 0), -13);
        Due.is("3", x.count(5), 3);
        Due.is("STORE", x.copy(0, 0, 1, 0, 1), -14);
        Due.is("4", x.count(5), 4);
        Due.is("SIZE", x.sheet(0, 0, -1), -15);
        Due.is("5", x.count(5), 5);
        Due.is("a BAD one keeps it", x.lose(4), -2);
        Due.is("5 still", x.count(5), 5);
        Due.is("a NOT keeps it", x.mend(), -3);
        Due.is("5 again", x.count(5), 5);
        Due.is("a right one keeps it", x.lose(1), 1);
        x.clear();
        x.shut();
        Due.is("clear() and shut(), too", x.count(5), 5);
        Due.is("NULL by get()", x.get(1, 0, 0), LEAST);
        Due.is("1 as the latest", x.count(5), 1);
        Due.is("the same once more", x.lose(1), -11);
        Due.is("1 as before", x.count(5), 1);
    }

    private static long digestOf(TrueArms x) {
        long h = 17;
        for (int what = 0; what <= 4; what++) {
            h = 31 * h + x.count(what);
        }
        int[] lengths = new int[3];
        for (int i = 0; i < 3; i++) {
            lengths[i] = x.length(i, 1);
            x.length(i, lengths[i]);
            h = 31 * h + lengths[i];
        }
        for (int i = 0; i < x.count(0); i++) {
            h = 31 * h + x.hand(i, 0);
            h = 31 * h + x.hand(i, 1);
        }
        for (int cell = 0; cell < 9; cell++) {
            h = 31 * h + x.table(cell / 3, cell % 3);
        }
        h = 31 * h + x.rank();
        return 31 * h + x.answers();
    }

    private static void digestOfNew() {
        TrueArms x = new TrueArms();
        Due.is("digest() of a new object", x.digest(), digestOf(x));
    }

    private static void digestOfFull() {
        for (int past = 0; past < Pasts.COUNT; past++) {
            TrueArms x = Pasts.make(past);
            Due.is("digest() of " + Pasts.NAMES[past], x.digest(), digestOf(x));
            Due.is("digest() again", x.digest(), digestOf(x));
            x.length(1, 999);
            Due.is("digest() with another length", x.digest(), digestOf(x));
        }
    }

    /** "as longs that wrap": 31 to the 19th passes a long by far, as do negative hands. */
    private static void digestWraps() {
        TrueArms x = new TrueArms();
        BigInteger h = BigInteger.valueOf(17);
        for (int i = 0; i < 20; i++) {
            x.posture(18, i, 0);
        }
        List<Long> parts = new ArrayList<>(List.of(20L, 0L, 0L, 0L, 4L, 100L, 100L, 100L));
        for (int i = 0; i < 20; i++) {
            parts.add((long) x.hand(i, 0));
            parts.add((long) x.hand(i, 1));
        }
        for (int zero = 0; zero < 10; zero++) {
            parts.add(0L);
        }
        parts.add(36L);
        for (long part : parts) {
            h = h.multiply(BigInteger.valueOf(31)).add(BigInteger.valueOf(part));
        }
        Due.is("digest() wrapped", x.digest(), h.longValue());
    }

    /** Items, limits and findings are in it only by what they make of the table. */
    private static void digestLeavesOutTheRest() {
        TrueArms x = new TrueArms();
        x.sheet(3, 2, 5);
        long before = x.digest();
        x.put(3, 2, 1, 5);
        x.limit(0, 4, 4);
        x.lose(2);
        Due.is("digest() as before", x.digest(), before);
        x.lose(3);
        Due.holds("a lost sheet is in it", x.digest() != before);
    }
}
