/** "They change nothing else": each refused call of promises 2 to 18, on objects with many pasts. */
final class ArmRefusalsTest {
    private static final int LEAST = Integer.MIN_VALUE, GREATEST = Integer.MAX_VALUE;
    private static final long LONG_BAD = Long.MIN_VALUE + 2, LONG_NOT = Long.MIN_VALUE + 3;
    private static final int[] NO_HEADING = {LEAST, -36, -1, 36, 72, GREATEST};
    private static final int[] NO_LINK = {LEAST, -1, 3, GREATEST};
    private static final int[] NO_AXIS = {LEAST, -1, 2, GREATEST};

    public static void main(String[] args) {
        turns();
        lengths();
        postures();
        postureIsFull();
        handsAndMeasures();
        postureNumbers();
        mending();
        linkNumbers();
        fitNot();
        noMeasure();
        bestOnes();
        weights();
        callsThatOnlyTell();
        Due.end();
    }

    private static void turns() {
        for (int h : NO_HEADING) {
            Twins.keepsInAll("turn(" + h + ", 0)", x -> x.turn(h, 0), -1000);
            Twins.keepsInAll("turn(" + h + ", 1)", x -> x.turn(h, 1), -1000);
        }
        for (int what : NO_AXIS) {
            Twins.keepsInAll("turn(0, " + what + ")", x -> x.turn(0, what), -1000);
            Twins.keepsInAll("turn(36, " + what + ")", x -> x.turn(36, what), -1000);
        }
    }

    private static void lengths() {
        for (int i : NO_LINK) {
            Twins.keepsInAll("length(" + i + ", 1)", x -> x.length(i, 1), -2);
        }
        for (int v : new int[] {LEAST, -1, 0, 1000, GREATEST}) {
            for (int i = 0; i < 3; i++) {
                int link = i;
                Twins.keepsInAll("length(" + i + ", " + v + ")", x -> x.length(link, v), -2);
            }
            Twins.keepsInAll("length(3, " + v + ")", x -> x.length(3, v), -2);
        }
    }

    /** With twenty postures too: BAD stands before FULL. */
    private static void postures() {
        for (int t : NO_HEADING) {
            Twins.keepsInAll("posture(" + t + ", 0, 0)", x -> x.posture(t, 0, 0), -2);
            Twins.keepsInAll("posture(0, " + t + ", 0)", x -> x.posture(0, t, 0), -2);
            Twins.keepsInAll("posture(0, 0, " + t + ")", x -> x.posture(0, 0, t), -2);
        }
    }

    private static void postureIsFull() {
        Twins.keeps(Pasts.FULL, "posture(0, 0, 0)", x -> x.posture(0, 0, 0), -4);
        Twins.keeps(Pasts.FULL, "posture(35, 35, 35)", x -> x.posture(35, 35, 35), -4);
    }

    private static void handsAndMeasures() {
        for (int past = 0; past < Pasts.COUNT; past++) {
            for (int i : noPosture(past)) {
                for (int what = 0; what < 2; what++) {
                    int axis = what;
                    Twins.keeps(past, "hand(" + i + ", " + what + ")", x -> x.hand(i, axis), LEAST);
                    Twins.keeps(past, "measure(" + i + ", " + what + ")", x -> x.measure(i, axis), -10000);
                }
            }
        }
        for (int what : NO_AXIS) {
            Twins.keepsInAll("hand(0, " + what + ")", x -> x.hand(0, what), LEAST);
            Twins.keepsInAll("measure(0, " + what + ")", x -> x.measure(0, what), -10000);
            Twins.keepsInAll("measure(5, " + what + "), though in the middle it has none", x -> x.measure(5, what), -10000);
        }
    }

    private static int[] noPosture(int past) {
        return new int[] {LEAST, -1, Pasts.POSTURES[past], 20, GREATEST};
    }

    private static void postureNumbers() {
        for (int past = 0; past < Pasts.COUNT; past++) {
            for (int i : noPosture(past)) {
                Twins.keeps(past, "leave(" + i + ", true)", x -> x.leave(i, true), -2);
                Twins.keeps(past, "leave(" + i + ", false)", x -> x.leave(i, false), -2);
                Twins.keeps(past, "miss(" + i + ")", x -> x.miss(i), -2);
            }
        }
    }

    private static void mending() {
        Twins.keeps(Pasts.NEW, "mend()", TrueArms::mend, -3);
        Twins.keeps(Pasts.EMPTIED, "mend()", TrueArms::mend, -3);
    }

    private static void linkNumbers() {
        for (int i : NO_LINK) {
            Twins.keepsInAll("table(" + i + ", 0)", x -> x.table(i, 0), LONG_BAD);
            Twins.keepsInAll("table(0, " + i + ")", x -> x.table(0, i), LONG_BAD);
            Twins.keepsInAll("table(" + i + ", " + i + ")", x -> x.table(i, i), LONG_BAD);
            Twins.keepsInAll("told(" + i + ")", x -> x.told(i), -2);
            Twins.keepsInAll("fit(" + i + "), BAD before NOT", x -> x.fit(i), LONG_BAD);
        }
    }

    private static void fitNot() {
        for (int i = 0; i < 3; i++) {
            int link = i;
            Twins.keeps(Pasts.NEW, "fit(" + i + ")", x -> x.fit(link), LONG_NOT);
            Twins.keeps(Pasts.EMPTIED, "fit(" + i + ")", x -> x.fit(link), LONG_NOT);
        }
    }

    /** The sixth posture's y would be item 11, and there are 11 items. */
    private static void noMeasure() {
        Twins.keeps(Pasts.MIDDLE, "measure(5, 0)", x -> x.measure(5, 0), -10001);
        Twins.keeps(Pasts.MIDDLE, "measure(5, 1)", x -> x.measure(5, 1), -10001);
        Twins.keeps(Pasts.MIDDLE, "miss(5)", x -> x.miss(5), -3);
    }

    private static void bestOnes() {
        for (int k : new int[] {LEAST, -1, 0, 5, GREATEST}) {
            Twins.keepsInAll("best(" + k + "), BAD before NOT", x -> x.best(k), -2);
        }
        for (int k = 1; k <= 4; k++) {
            int many = k;
            Twins.keeps(Pasts.NEW, "best(" + k + ")", x -> x.best(many), -3);
            Twins.keeps(Pasts.EMPTIED, "best(" + k + ")", x -> x.best(many), -3);
        }
    }

    private static void weights() {
        for (int bits : new int[] {LEAST, LEAST + 1, -1, 1024, 1025, 2048, 1 << 19, 1 << 30, GREATEST}) {
            Twins.keepsInAll("weight(" + bits + ")", x -> x.weight(bits), LONG_BAD);
        }
        for (int bits : new int[] {64, 65, 127, 512}) {
            Twins.keeps(Pasts.MIDDLE, "weight(" + bits + ") of six", x -> x.weight(bits), LONG_BAD);
        }
        Twins.keeps(Pasts.NEW, "weight(1) of none", x -> x.weight(1), LONG_BAD);
        Twins.keeps(Pasts.EMPTIED, "weight(1) of none", x -> x.weight(1), LONG_BAD);
    }

    private static void callsThatOnlyTell() {
        Twins.onlyTells("turn(7, 1)", x -> x.turn(7, 1));
        Twins.onlyTells("hand(0, 0)", x -> x.hand(0, 0));
        Twins.onlyTells("measure(0, 1)", x -> x.measure(0, 1));
        Twins.onlyTells("used()", TrueArms::used);
        Twins.onlyTells("table(1, 2)", x -> x.table(1, 2));
        Twins.onlyTells("rank()", TrueArms::rank);
        Twins.onlyTells("told(0)", x -> x.told(0));
        Twins.onlyTells("fit(0)", x -> x.fit(0));
        Twins.onlyTells("miss(0)", x -> x.miss(0));
        Twins.onlyTells("worst()", TrueArms::worst);
        Twins.onlyTells("best(3)", x -> x.best(3));
        Twins.onlyTells("weight(0)", x -> x.weight(0));
        Twins.onlyTells("weight(31)", x -> x.weight(31));
    }
}
