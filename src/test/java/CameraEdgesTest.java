/** The boundary cases of the document's fourth part and of promises 19 to 22, a sentence each. */
final class CameraEdgesTest {
    private static final int LEAST = Integer.MIN_VALUE;

    public static void main(String[] args) {
        pairsAre20AtMost();
        placesAreUpTo1000();
        shutOfNoneAndOfTwenty();
        shutChangesNothingElse();
        withoutPairsAllHeadings();
        withOnePairAllHeadings();
        farthestShifts();
        allPairsMustAgree();
        noAnswer();
        answersByLeastHeading();
        iIsAnAnswer();
        whatIs0To2();
        Due.end();
    }

    /** "A CAMERA saw PAIRS, 20 at most"; "A PAIR more: how many. BAD; FULL." */
    private static void pairsAre20AtMost() {
        TrueArms x = new TrueArms();
        for (int round = 0; round < 2; round++) {
            for (int i = 1; i <= 20; i++) {
                Due.is("pair " + i, x.pair(i, 0, 0, i), i);
                Due.is("count(2) then", x.count(2), i);
            }
            Due.is("the twenty-first", x.pair(0, 0, 0, 0), -4);
            Due.is("the twenty-first, a bad one", x.pair(0, 0, 0, -1001), -2);
            Due.is("there are twenty", x.count(2), 20);
            Due.is("heading 9 still answers them", x.answer(0, 0), 9);
            Due.is("shut()", x.shut(), 20);
        }
    }

    /** "(-1000 to 1000 each)" */
    private static void placesAreUpTo1000() {
        int[] values = {1000, -1000, 1001, -1001, Integer.MAX_VALUE, LEAST};
        int[] due = {1, 2, -2, -2, -2, -2};
        for (int at = 0; at < 4; at++) {
            TrueArms x = new TrueArms();
            for (int k = 0; k < values.length; k++) {
                int[] a = {0, 0, 0, 0};
                a[at] = values[k];
                Due.is(values[k] + " at " + at, x.pair(a[0], a[1], a[2], a[3]), due[k]);
            }
            Due.is("two were taken", x.count(2), 2);
        }
    }

    /** "No PAIRS: how many there were." */
    private static void shutOfNoneAndOfTwenty() {
        TrueArms x = new TrueArms();
        Due.is("shut() of none", x.shut(), 0);
        x.pair(1, 1, 1, 1);
        Due.is("shut() of one", x.shut(), 1);
        Due.is("shut() again", x.shut(), 0);
        for (int i = 0; i < 20; i++) {
            x.pair(1, 1, 2, i);
        }
        Due.is("no answer", x.answers(), 0);
        Due.is("shut() of twenty", x.shut(), 20);
        Due.is("all answer", x.answers(), 36);
        Due.is("no shift again", x.answer(0, 1), LEAST + 1);
        Due.is("the next pair is the first", x.pair(1, 1, 1, 1), 1);
        Due.is("its own shift tells", x.answer(0, 1), 0);
    }

    private static void shutChangesNothingElse() {
        Twins.keeps(Pasts.FULL, "shut() and all pairs again", x -> {
            int were = x.shut();
            for (int i = 0; i < 20; i++) {
                x.pair(i, 0, 0, i);
            }
            return were;
        }, 20);
    }

    /** "Without PAIRS all HEADINGS are" */
    private static void withoutPairsAllHeadings() {
        TrueArms x = new TrueArms();
        Due.is("answers()", x.answers(), 36);
        for (int i = 0; i < 36; i++) {
            Due.is("heading of answer " + i, x.answer(i, 0), i);
            Due.is("first of its shift", x.answer(i, 1), LEAST + 1);
            Due.is("second of its shift", x.answer(i, 2), LEAST + 1);
        }
        Due.is("answer(36, 0)", x.answer(36, 0), LEAST);
        Due.is("answer(36, 2), BAD before NOT", x.answer(36, 2), LEAST);
        Due.is("answer(-1, 1), BAD before NOT", x.answer(-1, 1), LEAST);
        Due.is("answer(0, 3), BAD before NOT", x.answer(0, 3), LEAST);
    }

    /** "with one all are, too" */
    private static void withOnePairAllHeadings() {
        TrueArms x = new TrueArms();
        x.pair(7, -3, 20, 40);
        Due.is("answers()", x.answers(), 36);
        for (int i = 0; i < 36; i++) {
            int c = x.turn(i, 0);
            int s = x.turn(i, 1);
            Due.is("heading of answer " + i, x.answer(i, 0), i);
            Due.is("65 x of answer " + i, c * 7 - s * -3 + x.answer(i, 1), 65 * 20);
            Due.is("65 y of answer " + i, s * 7 + c * -3 + x.answer(i, 2), 65 * 40);
        }
        Due.is("answer(36, 0)", x.answer(36, 0), LEAST);
    }

    private static void farthestShifts() {
        int[] ends = {1000, -1000};
        for (int p : ends) {
            for (int q : ends) {
                for (int place : ends) {
                    TrueArms x = new TrueArms();
                    x.pair(p, q, place, -place);
                    for (int h = 0; h < 36; h++) {
                        int c = x.turn(h, 0);
                        int s = x.turn(h, 1);
                        Due.is("the first shift of " + h, x.answer(h, 1), 65 * place - c * p + s * q);
                        Due.is("the second shift of " + h, x.answer(h, 2), -65 * place - s * p - c * q);
                    }
                }
            }
        }
    }

    /** "for all PAIRS": one that is away by 1, be it the first or the twentieth, spoils it. */
    private static void allPairsMustAgree() {
        for (int spoilt = -1; spoilt < 20; spoilt++) {
            for (int inX = 0; inX < 2; inX++) {
                TrueArms x = new TrueArms();
                for (int i = 0; i < 20; i++) {
                    int more = i == spoilt ? 1 : 0;
                    x.pair(10 * i, 3, -3 + more * inX, 10 * i + more * (1 - inX));
                }
                Due.is("answers() with pair " + spoilt + " spoilt", x.answers(), spoilt < 0 ? 1 : 0);
            }
        }
    }

    private static void noAnswer() {
        TrueArms x = new TrueArms();
        x.pair(0, 0, 0, 0);
        x.pair(1, 0, 500, 500);
        Due.is("answers()", x.answers(), 0);
        for (int what = 0; what < 3; what++) {
            Due.is("answer(0, " + what + ") of none", x.answer(0, what), LEAST);
        }
    }

    /** "ANSWER i, the least HEADING first" */
    private static void answersByLeastHeading() {
        int[][] turned = {{1, 0, 0}, {0, 1, 9}, {-1, 0, 18}, {0, -1, 27}};
        for (int[] t : turned) {
            TrueArms x = new TrueArms();
            x.pair(0, 0, 0, 0);
            x.pair(1, 0, t[0], t[1]);
            Due.is("the heading", x.answer(0, 0), t[2]);
            Due.is("it is the only one", x.answers(), 1);
        }
        TrueArms x = new TrueArms();
        x.pair(4, 4, 9, 9);
        x.pair(4, 4, 9, 9);
        Due.is("like pairs tell as little as one", x.answers(), 36);
        for (int i = 0; i < 36; i++) {
            Due.is("heading of answer " + i, x.answer(i, 0), i);
        }
    }

    private static void iIsAnAnswer() {
        TrueArms x = new TrueArms();
        x.pair(0, 0, 3, 4);
        x.pair(65, 0, 3 + 16, 4 + 63);
        Due.is("answers()", x.answers(), 1);
        Due.is("answer(0, 0)", x.answer(0, 0), 8);
        Due.is("answer(0, 1)", x.answer(0, 1), 195);
        Due.is("answer(0, 2)", x.answer(0, 2), 260);
        int[] wrong = {LEAST, -1, 1, 8, 35, 36, Integer.MAX_VALUE};
        for (int i : wrong) {
            for (int what = 0; what < 3; what++) {
                Due.is("answer(" + i + ", " + what + ")", x.answer(i, what), LEAST);
            }
        }
    }

    private static void whatIs0To2() {
        TrueArms x = new TrueArms();
        x.pair(0, 0, 1, 2);
        int[] wrong = {LEAST, -1, 3, Integer.MAX_VALUE};
        for (int what : wrong) {
            Due.is("answer(0, " + what + ")", x.answer(0, what), LEAST);
        }
        Due.is("answer(0, 0)", x.answer(0, 0), 0);
        Due.is("answer(0, 1)", x.answer(0, 1), 65);
        Due.is("answer(0, 2)", x.answer(0, 2), 130);
    }
}
