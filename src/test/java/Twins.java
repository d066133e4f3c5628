import java.util.Arrays;

/** Two objects with one past: one of them is asked a call, and then both are told whole and held together. */
final class Twins {
    interface Call {
        long on(TrueArms x);
    }

    private static final long[][][] UNTOUCHED = untouched();

    private Twins() {
    }

    private static long[][][] untouched() {
        long[][][] told = new long[Pasts.COUNT][Whole.PARTS][];
        for (int past = 0; past < Pasts.COUNT; past++) {
            for (int part = 0; part < Whole.PARTS; part++) {
                told[past][part] = Whole.of(Pasts.make(past), part);
            }
        }
        return told;
    }

    /** BAD, NOT, FULL, or a call that only tells: nothing changes, count(5) neither. */
    static void keeps(int past, String name, Call call, long due) {
        check(past, name, call, due, Pasts.FINDINGS[past]);
    }

    static void keepsInAll(String name, Call call, long due) {
        for (int past = 0; past < Pasts.COUNT; past++) {
            keeps(past, name, call, due);
        }
    }

    /** A call that only tells, whatever it answers. */
    static void onlyTells(String name, Call call) {
        for (int past = 0; past < Pasts.COUNT; past++) {
            keeps(past, name, call, call.on(Pasts.make(past)));
        }
    }

    /** A finding: count(5) alone changes. */
    static void finds(int past, String name, Call call, long due, int number) {
        check(past, name, call, due, number);
    }

    private static void check(int past, String name, Call call, long due, int finding) {
        String full = Pasts.NAMES[past] + ": " + name;
        for (int part = 0; part < Whole.PARTS; part++) {
            TrueArms x = Pasts.make(past);
            long got = call.on(x);
            if (part == 0) {
                Due.is(full, got, due);
            }
            long[] want = UNTOUCHED[past][part].clone();
            want[0] = finding;
            long[] is = Whole.of(x, part);
            Due.is("count(5) after " + full, is[0], want[0]);
            Due.holds("nothing else changes by " + full + " (part " + part + ")", Arrays.equals(is, want));
        }
    }
}
