/** Promises 27 to 33. */
final class SheetsTest {
    private static final int LEAST = Integer.MIN_VALUE;

    public static void main(String[] args) {
        sheets();
        losing();
        putting();
        getting();
        lowestBits();
        copying();
        copyingOntoItself();
        copyRefusals();
        counting();
        digests();
        Due.end();
    }

    private static void sheets() {
        TrueArms x = new TrueArms();
        Due.is("sheet(0, 0, 0)", x.sheet(0, 0, 0), 0);
        Due.is("sheet(1, 1, 100)", x.sheet(1, 1, 100), 100);
        Due.is("sheet(3, 2, 5)", x.sheet(3, 2, 5), 5);
        Due.is("sheet(4, 0, 5)", x.sheet(4, 0, 5), -2);
        Due.is("sheet(-1, 0, 5)", x.sheet(-1, 0, 5), -2);
        Due.is("sheet(0, 3, 5)", x.sheet(0, 3, 5), -2);
        Due.is("sheet(0, -1, 5)", x.sheet(0, -1, 5), -2);
        Due.is("sheet(0, 0, 101)", x.sheet(0, 0, 101), -2);
        Due.is("bad before size", x.sheet(0, 3, -1), -2);
        Due.is("no finding yet", x.count(5), 0);
        Due.is("sheet(2, 0, -1)", x.sheet(2, 0, -1), -15);
        Due.is("sheet(2, 0, least)", x.sheet(2, 0, LEAST), -15);
        Due.is("count(5)", x.count(5), 5);
        Due.is("count(3)", x.count(3), 3);
        x.put(3, 2, 4, 77);
        Due.is("size refuses and keeps the row", x.sheet(3, 0, -1), -15);
        Due.is("its item is there", x.get(3, 2, 4), 77);
        x.sheet(3, 2, 6);
        Due.is("a new row has 0", x.get(3, 2, 4), 0);
        x.put(3, 2, 5, 8);
        x.sheet(3, 1, 5);
        x.sheet(3, 2, 6);
        Due.is("also beyond a shorter row between", x.get(3, 2, 5), 0);
    }

    private static void losing() {
        TrueArms x = new TrueArms();
        Due.is("lose(0) at first", x.lose(0), -11);
        Due.is("count(5)", x.count(5), 1);
        x.sheet(0, 2, 7);
        x.put(0, 2, 1, 5);
        Due.is("lose(0)", x.lose(0), 7);
        Due.is("lose(0) again", x.lose(0), -11);
        Due.is("it is lost", x.put(0, 2, 1, 5), -11);
        x.sheet(0, 0, 0);
        Due.is("lose(0) of an empty row", x.lose(0), 0);
        Due.is("lose(4)", x.lose(4), -2);
        Due.is("lose(-1)", x.lose(-1), -2);
    }

    private static void putting() {
        TrueArms x = new TrueArms();
        x.sheet(1, 1, 3);
        Due.is("put(1, 1, 2, 9)", x.put(1, 1, 2, 9), 1);
        Due.is("put(4, 1, 0, 9)", x.put(4, 1, 0, 9), -2);
        Due.is("put(-1, 1, 0, 9)", x.put(-1, 1, 0, 9), -2);
        Due.is("put(1, 3, 0, 9)", x.put(1, 3, 0, 9), -2);
        Due.is("put(1, -1, 0, 9)", x.put(1, -1, 0, 9), -2);
        Due.is("bad before null", x.put(0, 3, 0, 9), -2);
        Due.is("no finding yet", x.count(5), 0);
        Due.is("null before index", x.put(0, 1, -1, 9), -11);
        Due.is("count(5) of null", x.count(5), 1);
        Due.is("cast before index", x.put(1, 2, 3, 9), -13);
        Due.is("count(5) of cast", x.count(5), 3);
        Due.is("index", x.put(1, 1, 3, 9), -12);
        Due.is("count(5) of index", x.count(5), 2);
        Due.is("index below", x.put(1, 1, -1, 9), -12);
        Due.is("what was put is there", x.get(1, 1, 2), 9);
        Due.is("what was not is 0", x.get(1, 1, 1), 0);
    }

    private static void getting() {
        TrueArms x = new TrueArms();
        x.sheet(1, 1, 3);
        x.put(1, 1, 0, -5);
        Due.is("get(1, 1, 0)", x.get(1, 1, 0), -5);
        Due.is("get(4, 1, 0)", x.get(4, 1, 0), LEAST);
        Due.is("get(-1, 1, 0)", x.get(-1, 1, 0), LEAST);
        Due.is("get(1, 3, 0)", x.get(1, 3, 0), LEAST);
        Due.is("get(1, -1, 0)", x.get(1, -1, 0), LEAST);
        Due.is("bad is no finding", x.count(5), 0);
        Due.is("null", x.get(0, 1, 9), LEAST);
        Due.is("count(5) of null", x.count(5), 1);
        Due.is("cast", x.get(1, 0, 9), LEAST);
        Due.is("count(5) of cast", x.count(5), 3);
        Due.is("index", x.get(1, 1, 3), LEAST);
        Due.is("count(5) of index", x.count(5), 2);
        Due.is("index below", x.get(1, 1, -1), LEAST);
        Due.is("a call that is right keeps the finding", x.get(1, 1, 1) + x.count(5), 2);
    }

    private static void lowestBits() {
        int[] values = {127, 128, 255, 256, -129, 32767, 32768, 65535, LEAST, Integer.MAX_VALUE};
        TrueArms x = new TrueArms();
        for (int form = 0; form < 3; form++) {
            x.sheet(form, form, 1);
            for (int v : values) {
                x.put(form, form, 0, v);
                int due = form == 0 ? (byte) v : form == 1 ? (short) v : v;
                Due.is(v + " as of form " + form, x.get(form, form, 0), due);
            }
        }
    }

    private static void copying() {
        TrueArms x = new TrueArms();
        x.sheet(0, 0, 4);
        x.sheet(1, 0, 6);
        for (int i = 0; i < 4; i++) {
            x.put(0, 0, i, i + 1);
        }
        Due.is("copy(0, 1, 1, 2, 3)", x.copy(0, 1, 1, 2, 3), 1);
        int[] due = {0, 0, 2, 3, 4, 0};
        for (int i = 0; i < due.length; i++) {
            Due.is("item " + i, x.get(1, 0, i), due[i]);
        }
        Due.is("none, behind the last ones", x.copy(0, 4, 1, 6, 0), 1);
        Due.is("all", x.copy(0, 0, 1, 2, 4), 1);
        Due.is("the last item", x.get(1, 0, 5), 4);
    }

    private static void copyingOntoItself() {
        TrueArms x = new TrueArms();
        x.sheet(2, 2, 5);
        for (int i = 0; i < 5; i++) {
            x.put(2, 2, i, i + 1);
        }
        Due.is("upwards", x.copy(2, 0, 2, 1, 4), 1);
        int[] up = {1, 1, 2, 3, 4};
        for (int i = 0; i < 5; i++) {
            Due.is("item " + i + " upwards", x.get(2, 2, i), up[i]);
        }
        Due.is("downwards", x.copy(2, 2, 2, 0, 3), 1);
        int[] down = {2, 3, 4, 3, 4};
        for (int i = 0; i < 5; i++) {
            Due.is("item " + i + " downwards", x.get(2, 2, i), down[i]);
        }
    }

    private static void copyRefusals() {
        TrueArms x = new TrueArms();
        x.sheet(0, 0, 4);
        x.sheet(1, 0, 6);
        x.sheet(2, 1, 6);
        Due.is("copy(4, ..)", x.copy(4, 0, 1, 0, 1), -2);
        Due.is("copy(-1, ..)", x.copy(-1, 0, 1, 0, 1), -2);
        Due.is("to sheet 4", x.copy(0, 0, 4, 0, 1), -2);
        Due.is("to sheet -1", x.copy(0, 0, -1, 0, 1), -2);
        Due.is("bad before null", x.copy(3, 0, 4, 0, 1), -2);
        Due.is("no finding yet", x.count(5), 0);
        Due.is("s is lost", x.copy(3, 0, 1, 0, 1), -11);
        Due.is("t is lost", x.copy(0, 0, 3, 0, 1), -11);
        Due.is("count(5) of null", x.count(5), 1);
        Due.is("unlike forms, before index", x.copy(0, -1, 2, 0, 99), -14);
        Due.is("unlike forms, nothing to copy", x.copy(0, 0, 2, 0, 0), -14);
        Due.is("count(5) of store", x.count(5), 4);
        int[][] wrong = {{-1, 0, 1}, {0, -1, 1}, {0, 0, -1}, {0, 0, 5}, {4, 0, 1}, {5, 0, 0}, {0, 7, 0}, {0, 6, 1},
            {1, 0, 4}, {0, 3, 4}, {Integer.MAX_VALUE, 0, 1}, {0, Integer.MAX_VALUE, 1},
            {1, 1, Integer.MAX_VALUE}, {LEAST, 0, 0}, {0, LEAST, 1}, {0, 0, LEAST}};
        for (int[] w : wrong) {
            x.lose(3);
            Due.is("copy(0, " + w[0] + ", 1, " + w[1] + ", " + w[2] + ")", x.copy(0, w[0], 1, w[1], w[2]), -12);
            Due.is("count(5) of it", x.count(5), 2);
        }
    }

    private static void counting() {
        TrueArms x = new TrueArms();
        x.posture(0, 0, 0);
        x.posture(0, 0, 0);
        x.posture(0, 0, 0);
        x.leave(0, true);
        x.leave(2, true);
        x.pair(0, 0, 0, 0);
        x.sheet(1, 0, 0);
        int[] due = {3, 2, 1, 1, 3, 0};
        for (int what = 0; what < due.length; what++) {
            Due.is("count(" + what + ")", x.count(what), due[what]);
        }
        Due.is("count(6)", x.count(6), -2);
        Due.is("count(-1)", x.count(-1), -2);
    }

    private static void digests() {
        long[] ofNew = {0, 0, 0, 0, 4, 100, 100, 100, 0, 0, 0, 0, 0, 0, 0, 0, 0, 0, 36};
        TrueArms x = new TrueArms();
        Due.is("digest() of a new object", x.digest(), folded(ofNew));
        x.length(1, 7);
        x.posture(0, 9, 0);
        x.posture(9, 0, 0);
        x.leave(1, true);
        x.sheet(0, 0, 4);
        x.pair(0, 0, 0, 0);
        x.pair(0, 0, 1, 0);
        x.lose(3);
        long[] later = {2, 1, 2, 1, 3, 100, 7, 100, 6500, 107 * 65, 0, 207 * 65,
            4225, 0, 0, 0, 4225, 4225, 0, 4225, 4225, 2, 0};
        Due.is("digest() later", x.digest(), folded(later));
        Due.is("digest() changes nothing", x.digest(), folded(later));
        Due.is("not even the finding", x.count(5), 1);
    }

    private static long folded(long[] parts) {
        long h = 17;
        for (long part : parts) {
            h = 31 * h + part;
        }
        return h;
    }
}
