import java.util.Arrays;

/**
 * All that can be told of an object, in parts, since asking it all would take more than the 512 calls that an object
 * serves for. The first number of each part is count(5), before the asking makes findings of its own.
 */
final class Whole {
    static final int PARTS = 8;

    private final TrueArms x;
    private final long[] told = new long[400];
    private int size = 0;

    private Whole(TrueArms x) {
        this.x = x;
    }

    static long[] of(TrueArms x, int part) {
        Whole whole = new Whole(x);
        whole.add(x.count(5));
        if (part == 0) {
            whole.addArm();
            whole.addFits();
            whole.addCamera();
            whole.addLeftOut();
        } else if (part <= 3) {
            whole.addLimits(part - 1);
        } else {
            whole.addSheet(part - 4);
        }
        return Arrays.copyOf(whole.told, whole.size);
    }

    private void add(long v) {
        told[size] = v;
        size++;
    }

    private void addArm() {
        for (int what = 0; what < 5; what++) {
            add(x.count(what));
        }
        add(x.digest());
        for (int i = 0; i < 20; i++) {
            add(x.hand(i, 0));
            add(x.hand(i, 1));
            add(x.measure(i, 0));
            add(x.measure(i, 1));
            add(x.miss(i));
        }
    }

    private void addFits() {
        add(x.used());
        add(x.rank());
        add(x.worst());
        for (int i = 0; i < 3; i++) {
            add(x.told(i));
            add(x.fit(i));
        }
        for (int i = 0; i < 3; i++) {
            add(x.length(i, 1));
        }
        for (int k = 1; k <= 4; k++) {
            add(x.best(k));
        }
        for (int bit = 0; bit <= 10; bit++) {
            add(x.weight((1 << bit) - 1));
        }
    }

    private void addCamera() {
        add(x.answers());
        for (int i = 0; i < 36; i++) {
            for (int what = 0; what < 3; what++) {
                add(x.answer(i, what));
            }
        }
    }

    private void addLeftOut() {
        for (int i = 0; i < 20; i++) {
            x.leave(i, true);
            add(x.count(1));
        }
    }

    /** With one long link that alone may turn, the places all round tell which turns it may have. */
    private void addLimits(int joint) {
        for (int k = 0; k < 3; k++) {
            x.length(k, k == joint ? 999 : 1);
            if (k != joint) {
                x.limit(k, 0, 0);
            }
        }
        for (int h = 0; h < 36; h++) {
            add(x.nearest(46 * x.turn(h, 0), 46 * x.turn(h, 1)));
        }
    }

    private void addSheet(int s) {
        for (int form = 0; form < 3; form++) {
            for (int i = 0; i < 100; i++) {
                add(x.get(s, form, i));
            }
        }
        add(x.lose(s));
    }
}
