/** Promises 31 to 33, and what the terms say of TELLINGS: a test for each sentence that names a bound. */
public final class TellingBounds {
    private static final Due DUE = new Due("TellingBounds");
    private static final int LEAST = Integer.MIN_VALUE;
    private static final int MOST = Integer.MAX_VALUE;
    private static final long BOUND = 1L << 40;

    private TellingBounds() {
    }

    public static void main(String[] args) {
        tellingOfShares();
        tellingOfAThousand();
        stepsRoundedDown();
        shareOfOneInStepNine();
        judgedOfSteps();
        judgedOfWhat();
        judgedOfNone();
        saidOfSteps();
        saidOfNone();
        saidOfOne();
        saidOfTheWholeStep();
        saidKeepsToItsStep();
        saidMadeLessEachTime();
        saidUpperJustAtTheBound();
        saidUpperJustPastTheBound();
        saidLowerNextToTheBound();
        saidPassedOnItsWay();
        saidInTheOrderInWhichTheyCame();
        saidStaysGreat();
        saidOfAFractionPastTheBound();
        DUE.close();
    }

    private static void tell(EndTeller x, int... shares) {
        for (int k = 0; k < shares.length; k += 2) {
            String call = "telling(" + shares[k] + ", " + shares[k + 1] + ", true)";
            DUE.holds(x, call, x.telling(shares[k], shares[k + 1], true));
        }
    }

    // ---- Promise 31: "A TELLING more (5; 7: there are 1,000)."; "a share n / d (0 to d; d 1 to 1,000)"

    private static void tellingOfShares() {
        EndTeller x = new EndTeller();
        int[][] wrong = {{-1, 1}, {2, 1}, {0, 0}, {1, 0}, {-1, 0}, {0, -1}, {-1, -1}, {0, 1001}, {1001, 1001},
            {1001, 1000}, {-1, 1000}, {LEAST, 1}, {0, LEAST}, {LEAST, LEAST}, {MOST, MOST}, {MOST, 1}, {0, MOST}};
        for (int[] w : wrong) {
            String call = "telling(" + w[0] + ", " + w[1] + ", ..)";
            DUE.refuses(x, call, x.telling(w[0], w[1], true), 5);
            DUE.refuses(x, call, x.telling(w[0], w[1], false), 5);
        }
        for (int s = 0; s < 10; s++) {
            DUE.gives(x, "judged(" + s + ", 0) of none", x.judged(s, 0), 0);
        }
        tell(x, 0, 1, 1, 1, 0, 1000, 1000, 1000);
        DUE.gives(x, "judged(0, 0)", x.judged(0, 0), 2);
        DUE.gives(x, "judged(9, 0)", x.judged(9, 0), 2);
    }

    private static void tellingOfAThousand() {
        EndTeller x = new EndTeller();
        for (int k = 0; k < 999; k++) {
            x.telling(k % 10, 10, k % 2 == 0);
        }
        DUE.holds(x, "the 1,000th telling", x.telling(1, 1, true));
        DUE.refuses(x, "5 ahead of 7", x.telling(2, 1, true), 5);
        DUE.refuses(x, "one past 1,000", x.telling(1, 1, true), 7);
        int all = 0;
        for (int s = 0; s < 10; s++) {
            DUE.gives(x, "judged(" + s + ", 0)", x.judged(s, 0), 100);
            all += x.judged(s, 1);
        }
        DUE.is("those that came true", all, 501);
        x.clear();
        DUE.refuses(x, "one past 1,000 behind clear()", x.telling(1, 1, true), 7);
    }

    // "STEPS 0 to 9: a share is in STEP 10 n / d, rounded down"
    private static void stepsRoundedDown() {
        for (int s = 0; s < 10; s++) {
            isInStep(s, s, 10);
            isInStep(s, 100 * s, 1000);
            isInStep(s, 100 * s + 99, 1000);
            isInStep(s, 10 * s + 9, 100);
        }
        for (int d = 1; d <= 1000; d += d < 30 ? 1 : 97) {
            for (int n = 0; n < d; n++) {
                isInStep(10 * n / d, n, d);
            }
        }
    }

    private static void isInStep(int step, int n, int d) {
        EndTeller x = new EndTeller();
        x.telling(n, d, false);
        DUE.gives(x, n + " / " + d + " is in step " + step, x.judged(step, 0), 1);
    }

    // "that of 1 in 9"
    private static void shareOfOneInStepNine() {
        isInStep(9, 1, 1);
        isInStep(9, 10, 10);
        isInStep(9, 1000, 1000);
        isInStep(9, 999, 1000);
    }

    // ---- Promise 32: "Of a STEP, what 0: its TELLINGS, 1: those that came true (2; 5)."

    private static void judgedOfSteps() {
        EndTeller x = new EndTeller();
        for (int wrong : new int[] {-1, 10, LEAST, MOST}) {
            DUE.refuses(x, "judged(" + wrong + ", 0)", x.judged(wrong, 0), 2);
            DUE.refuses(x, "2 ahead of 5", x.judged(wrong, 2), 2);
        }
        tell(x, 0, 1, 1, 1);
        DUE.gives(x, "judged(0, 0)", x.judged(0, 0), 1);
        DUE.gives(x, "judged(9, 0)", x.judged(9, 0), 1);
        DUE.gives(x, "judged(1, 0)", x.judged(1, 0), 0);
        DUE.gives(x, "judged(8, 0)", x.judged(8, 0), 0);
    }

    private static void judgedOfWhat() {
        EndTeller x = new EndTeller();
        x.telling(1, 2, true);
        x.telling(1, 2, false);
        DUE.gives(x, "judged(5, 0)", x.judged(5, 0), 2);
        DUE.gives(x, "judged(5, 1)", x.judged(5, 1), 1);
        for (int wrong : new int[] {-1, 2, LEAST, MOST}) {
            DUE.refuses(x, "judged(5, " + wrong + ")", x.judged(5, wrong), 5);
        }
    }

    private static void judgedOfNone() {
        EndTeller x = new EndTeller();
        for (int s = 0; s < 10; s++) {
            DUE.gives(x, "judged(" + s + ", 0) at first", x.judged(s, 0), 0);
            DUE.gives(x, "judged(" + s + ", 1) at first", x.judged(s, 1), 0);
        }
        x.telling(1, 2, false);
        DUE.gives(x, "none came true", x.judged(5, 1), 0);
    }

    // ---- Promise 33: "The FRACTION is the mean of the shares told in a STEP (2; 5: it has none; 9: ..)."

    private static void saidOfSteps() {
        EndTeller x = new EndTeller();
        tell(x, 0, 1, 1, 1);
        for (int wrong : new int[] {-1, 10, LEAST, MOST}) {
            DUE.refuses(x, "said(" + wrong + ")", x.said(wrong), 2);
        }
        DUE.tells(x, "said(0)", x.said(0), 0, 1);
        DUE.tells(x, "said(9)", x.said(9), 1, 1);
    }

    private static void saidOfNone() {
        EndTeller x = new EndTeller();
        tell(x, 1, 2);
        for (int s = 0; s < 10; s++) {
            if (s != 5) {
                DUE.refuses(x, "said(" + s + ") of none", x.said(s), 5);
            }
        }
        DUE.tells(x, "said(5)", x.said(5), 1, 2);
    }

    private static void saidOfOne() {
        EndTeller x = new EndTeller();
        tell(x, 999, 1000);
        DUE.tells(x, "said(9) of one", x.said(9), 999, 1000);
        tell(x, 1000, 1000);
        DUE.tells(x, "said(9) of two", x.said(9), 1999, 2000);
    }

    private static void saidOfTheWholeStep() {
        EndTeller x = new EndTeller();
        for (int k = 0; k < 100; k++) {
            x.telling(100 + k, 1000, k == 0);
        }
        DUE.tells(x, "0.100 to 0.199", x.said(1), 299, 2000);
    }

    private static void saidKeepsToItsStep() {
        EndTeller x = new EndTeller();
        tell(x, 3, 10, 399, 1000, 4, 10, 299, 1000);
        DUE.tells(x, "said(3)", x.said(3), 699, 2000);
        DUE.tells(x, "said(4)", x.said(4), 2, 5);
        DUE.tells(x, "said(2)", x.said(2), 299, 1000);
    }

    // "made less each time": these would pass the bound by far if they were not
    private static void saidMadeLessEachTime() {
        EndTeller x = new EndTeller();
        for (int k = 0; k < 500; k++) {
            x.telling(997, 998, true);
        }
        DUE.tells(x, "500 times 997 / 998", x.said(9), 997, 998);
        EndTeller y = new EndTeller();
        for (int k = 0; k < 60; k++) {
            y.telling(1, 2, true);
        }
        DUE.tells(y, "60 times 1 / 2", y.said(5), 1, 2);
    }

    // "a number of the sum .. passes 2 to the power 40"

    private static void saidUpperJustAtTheBound() {
        EndTeller x = new EndTeller();
        tell(x, 600, 631, 885, 907, 526, 547, 881, 911);
        long lower = 631L * 907 * 547 * 911;
        // the sum is 2 to the power 40 by this, its mean by four times this
        DUE.tells(x, "just 2 to the power 40", x.said(9), BOUND / 4, lower);
        EndTeller y = new EndTeller();
        tell(y, 681, 743, 698, 769, 619, 631, 741, 823);
        DUE.tells(y, "one less", y.said(9), BOUND - 1, 4 * 743L * 769 * 631 * 823);
    }

    private static void saidUpperJustPastTheBound() {
        EndTeller x = new EndTeller();
        tell(x, 819, 821, 625, 683, 599, 661);
        DUE.holds(x, "three of them", x.said(9));
        tell(x, 748, 787);
        DUE.refuses(x, "2 to the power 40 and 1", x.said(9), 9);
        EndTeller y = new EndTeller();
        tell(y, 440, 761, 506, 991, 542, 947, 405, 683);
        DUE.refuses(y, "the same in step 5", y.said(5), 9);
    }

    /** 2 to the power 40 itself can't be: 512 is the greatest power of 2 that a share has. */
    private static void saidLowerNextToTheBound() {
        EndTeller x = new EndTeller();
        tell(x, 1, 432, 1, 949, 1, 763, 1, 703, 1, 35);
        DUE.tells(x, "by 16 less than 2 to the power 40", x.said(0), 38123449421L, 5 * (BOUND - 16));
        EndTeller y = new EndTeller();
        tell(y, 1, 247, 1, 61, 1, 307, 1, 467);
        DUE.holds(y, "all but the last", y.said(0));
        tell(y, 1, 509);
        DUE.refuses(y, "by 231 more than 2 to the power 40", y.said(0), 9);
    }

    // "as its shares are summed one by one"

    /** Three shares of step 3 with a prime for each that are 1 together. */
    private static final int[] PRIMES = {997, 991, 983, 977, 971};

    private static void saidPassedOnItsWay() {
        EndTeller x = new EndTeller();
        for (int turn = 0; turn < 3; turn++) {
            for (int p : PRIMES) {
                tell(x, turn < 2 ? p / 3 : p - 2 * (p / 3), p);
            }
        }
        DUE.refuses(x, "5 at last, but past the bound with five primes", x.said(3), 9);
        DUE.gives(x, "judged(3, 0)", x.judged(3, 0), 15);
    }

    // "in the order in which they came"
    private static void saidInTheOrderInWhichTheyCame() {
        EndTeller x = new EndTeller();
        for (int p : PRIMES) {
            tell(x, p / 3, p, p / 3, p, p - 2 * (p / 3), p);
        }
        DUE.tells(x, "the same shares, prime by prime", x.said(3), 1, 3);
        EndTeller y = new EndTeller();
        for (int p : PRIMES) {
            tell(y, p / 3, p, 1, p, p / 3, p, 1, 2, p - 2 * (p / 3), p);
        }
        DUE.tells(y, "others between them", y.said(3), 1, 3);
        DUE.tells(y, "the other step's", y.said(5), 1, 2);
    }

    private static void saidStaysGreat() {
        EndTeller x = new EndTeller();
        for (int p : PRIMES) {
            tell(x, 1, p);
        }
        DUE.refuses(x, "past the bound", x.said(0), 9);
        for (int k = 0; k < 100; k++) {
            x.telling(0, 1, false);
        }
        DUE.refuses(x, "past it on its way", x.said(0), 9);
        tell(x, 1, 2);
        DUE.tells(x, "another step", x.said(5), 1, 2);
        DUE.refuses(x, "past it still", x.said(0), 9);
        DUE.fraction(x, "the other step's stays", 1, 2);
    }

    /** The bound is one of the sum; the mean of many may have a greater lower number. */
    private static void saidOfAFractionPastTheBound() {
        EndTeller x = new EndTeller();
        tell(x, 1, 997, 1, 991, 1, 983, 1, 977);
        for (int k = 0; k < 7; k++) {
            x.telling(0, 1, false);
        }
        DUE.holds(x, "the mean of eleven", x.said(0));
        DUE.is("its lower number", x.lower(), 11 * 997L * 991 * 983 * 977);
        DUE.is("past 2 to the power 40", x.lower() > BOUND, true);
    }
}
