import java.math.BigInteger;

/** Promises 18 to 28, and what the terms say of WAYS and FRACTIONS: a test for each sentence that names a bound. */
public final class ChanceBounds {
    private static final Due DUE = new Due("ChanceBounds");
    private static final int LEAST = Integer.MIN_VALUE;
    private static final int MOST = Integer.MAX_VALUE;

    private ChanceBounds() {
    }

    public static void main(String[] args) {
        fractionToldLatest();
        fractionWithStatusNought();
        fractionsWithoutCommonDivisor();
        noughtIsNoughtByOne();
        greatByParts();
        greatByCauses();
        greatByPartsAndCauses();
        greatByFar();
        greatCountsSharesAsTold();
        waysOfNone();
        waysLeftOrNot();
        theMostWays();
        endsOnADayOrAheadOfIt();
        endsOnDayNoughtOrMore();
        doneOnADayOrAheadOfIt();
        doneOfNoPart();
        promiseAtMostTheShare();
        promiseOfShares();
        promiseOfTheLeastDay();
        promiseOfGreatWorks();
        meanOfWaysLeft();
        spreadOfOneWay();
        spreadMayTakeOneTwice();
        spreadOfTheGreatest();
        sureOfNoPart();
        sureOfRowsThatAreNotLeft();
        sureUpToAMillion();
        surePastAMillion();
        sureMadeLessEachTime();
        sureRowByRow();
        sureOfAFractionPastAMillion();
        surestOfNone();
        surestIsTheFirst();
        surestByLittle();
        surestOfGreatSums();
        movesIsLaterAlone();
        movesOfNoPart();
        movesByWeight();
        stuckAheadOfGreatAheadOfNoWays();
        DUE.close();
    }

    // ---- Promises 18 and 19: "The upper number of the FRACTION told latest with STATUS 0."; "Its lower number."

    private static void fractionToldLatest() {
        EndTeller x = Lay.almostGreat();
        DUE.tells(x, "ends(1)", x.ends(1), 1, 20000);
        DUE.fraction(x, "asked twice", 1, 20000);
        DUE.tells(x, "done(1, 1)", x.done(1, 1), 1, 20);
        DUE.tells(x, "mean()", x.mean(), 2 * 20000 - 1, 20000);
        x.telling(2, 4, true);
        DUE.fraction(x, "a telling tells none", 2 * 20000 - 1, 20000);
        DUE.tells(x, "said(5)", x.said(5), 1, 2);
        x.promise(0, 1);
        x.surest();
        x.ways();
        x.judged(5, 0);
        x.told(0, 1);
        x.row(0, 0, 0);
        DUE.fraction(x, "calls that give a number tell none", 1, 2);
        x.clear();
        x.today(3);
        x.hands(4);
        x.cause(1, 2);
        DUE.fraction(x, "calls that alter the work tell none", 1, 2);
    }

    private static void fractionWithStatusNought() {
        EndTeller x = Lay.fixed(1);
        x.ends(1);
        DUE.refuses(x, "ends(-1)", x.ends(-1), 5);
        DUE.fraction(x, "after 5", 1, 1);
        DUE.refuses(x, "sure(1)", x.sure(1), 2);
        DUE.fraction(x, "after 2", 1, 1);
        x.today(1);
        DUE.refuses(x, "mean()", x.mean(), 10);
        DUE.fraction(x, "after 10", 1, 1);
        x.fixed(1, 9);
        x.hands(8);
        DUE.refuses(x, "spread()", x.spread(), 8);
        DUE.fraction(x, "after 8", 1, 1);
        DUE.refuses(x, "said(0)", x.said(0), 5);
        DUE.fraction(x, "after 5 of said", 1, 1);
    }

    // "FRACTIONS are told by an upper and a lower number (above 0) without a common divisor"
    private static void fractionsWithoutCommonDivisor() {
        EndTeller x = new EndTeller();
        Lay.table(x, 0, 2, 5, 4, 3, 6, 4);
        DUE.tells(x, "8 in 12", x.ends(4), 2, 3);
        DUE.tells(x, "12 in 12", x.ends(6), 1, 1);
        DUE.tells(x, "46 by 12", x.mean(), 23, 6);
        // twice 5 * 3 * 2, 5 * 4 * 4 and 3 * 4 * 2: 268 by 144
        DUE.tells(x, "268 by 144", x.spread(), 67, 36);
        x.telling(3, 9, true);
        DUE.tells(x, "3 / 9", x.said(3), 1, 3);
    }

    // "0 is 0 by 1"
    private static void noughtIsNoughtByOne() {
        EndTeller x = new EndTeller();
        Lay.table(x, 0, 2, 5, 4, 2);
        x.fixed(9, 0);
        DUE.tells(x, "ends(8)", x.ends(8), 0, 1);
        x.mean();
        DUE.tells(x, "done(0, 1)", x.done(0, 1), 0, 1);
        x.mean();
        DUE.tells(x, "spread()", x.spread(), 0, 1);
        x.mean();
        DUE.tells(x, "sure(0)", x.sure(0), 0, 1);
        x.mean();
        DUE.tells(x, "moves(0)", x.moves(0), 0, 1);
        x.telling(0, 1000, true);
        x.mean();
        DUE.tells(x, "said(0)", x.said(0), 0, 1);
        EndTeller y = Lay.fixed(0);
        DUE.tells(y, "mean()", y.mean(), 0, 1);
    }

    // ---- "GREAT (9): weights of more than 20,000 together, of all WAYS."

    /** Every call that asks for chances, with arguments that are fine. */
    private static void allRefuse(EndTeller x, String when, int status) {
        DUE.refuses(x, when + ": ends", x.ends(1), status);
        DUE.refuses(x, when + ": done", x.done(0, 1), status);
        DUE.refuses(x, when + ": promise", x.promise(1, 1), status);
        DUE.refuses(x, when + ": mean", x.mean(), status);
        DUE.refuses(x, when + ": spread", x.spread(), status);
        DUE.refuses(x, when + ": sure", x.sure(0), status);
        DUE.refuses(x, when + ": surest", x.surest(), status);
        DUE.refuses(x, when + ": moves", x.moves(0), status);
    }

    private static void allHold(EndTeller x, String when) {
        DUE.holds(x, when + ": ends", x.ends(1));
        DUE.holds(x, when + ": done", x.done(0, 1));
        DUE.gives(x, when + ": promise", x.promise(1, 1), 0);
        DUE.holds(x, when + ": mean", x.mean());
        DUE.holds(x, when + ": spread", x.spread());
        DUE.holds(x, when + ": sure", x.sure(0));
        DUE.is(when + ": surest", x.surest() >= 0 && x.status() == 0, true);
        DUE.holds(x, when + ": moves", x.moves(0));
    }

    private static void greatByParts() {
        EndTeller x = Lay.almostGreat();
        DUE.gives(x, "20,000: ways()", x.ways(), 4);
        allHold(x, "20,000");
        EndTeller y = new EndTeller();
        Lay.table(y, 0, 1, 1, 2, 58);
        Lay.table(y, 0, 1, 1, 2, 338);
        DUE.refuses(y, "59 * 339 = 20,001: ways()", y.ways(), 9);
        allRefuse(y, "20,001", 9);
    }

    private static void greatByCauses() {
        EndTeller x = Lay.fixed(1);
        x.cause(1, 12);
        x.cause(11, 12);
        x.cause(5, 12);
        x.cause(1, 11);
        DUE.gives(x, "12 * 12 * 12 * 11 = 19,008: ways()", x.ways(), 16);
        allHold(x, "19,008");
        x.clear();
        x.fixed(1, 0);
        for (int c = 0; c < 4; c++) {
            x.cause(1, 12);
        }
        DUE.refuses(x, "12 to the power 4 = 20,736: ways()", x.ways(), 9);
        allRefuse(x, "20,736", 9);
    }

    private static void greatByPartsAndCauses() {
        EndTeller x = new EndTeller();
        Lay.table(x, 0, 1, 1, 2, 999);
        x.cause(1, 10);
        x.cause(1, 2);
        DUE.gives(x, "1,000 * 10 * 2 = 20,000: ways()", x.ways(), 8);
        allHold(x, "20,000");
        EndTeller y = Lay.great();
        DUE.refuses(y, "6,667 * 3 = 20,001: ways()", y.ways(), 9);
        allRefuse(y, "20,001", 9);
        DUE.holds(y, "clear()", y.clear());
        DUE.gives(y, "no longer great", y.ways(), 1);
    }

    /** Their product passes every long: it must not come round to a little one. */
    private static void greatByFar() {
        EndTeller x = new EndTeller();
        for (int p = 0; p < 10; p++) {
            Lay.table(x, 0, 1, 1000, 2, 1000, 3, 1000, 4, 1000, 5, 1000, 6, 1000, 7, 1000, 8, 999);
        }
        for (int c = 0; c < 4; c++) {
            x.cause(1, 12);
        }
        DUE.refuses(x, "ways()", x.ways(), 9);
        allRefuse(x, "by far", 9);
        x.clear();
        for (int p = 0; p < 10; p++) {
            Lay.table(x, 0, 1, 1, 2, 255);
        }
        DUE.refuses(x, "256 to the power 10, 0 in a long", x.ways(), 9);
        allRefuse(x, "2 to the power 80", 9);
        x.clear();
        for (int p = 0; p < 8; p++) {
            Lay.table(x, 0, 1, 1, 2, 15);
        }
        DUE.refuses(x, "16 to the power 8, 0 in an int", x.ways(), 9);
        allRefuse(x, "2 to the power 32", 9);
    }

    // "its weight is the product of the WEIGHTS, and of n (or d - n) of CAUSES"
    private static void greatCountsSharesAsTold() {
        EndTeller x = new EndTeller();
        Lay.table(x, 0, 1, 1, 2, 999);
        x.cause(6, 12);
        DUE.gives(x, "1,000 * 12", x.ways(), 4);
        x.cause(1, 2);
        DUE.refuses(x, "1,000 * 12 * 2, though 6 / 12 is 1 / 2", x.ways(), 9);
    }

    // ---- Promise 20: "How many WAYS there are, left or not (9)."

    private static void waysOfNone() {
        EndTeller x = new EndTeller();
        DUE.gives(x, "of nothing", x.ways(), 1);
        x.fixed(5, 0);
        DUE.gives(x, "of a part of one row", x.ways(), 1);
        x.cause(1, 12);
        DUE.gives(x, "of a cause", x.ways(), 2);
    }

    private static void waysLeftOrNot() {
        EndTeller x = new EndTeller();
        Lay.table(x, 9, 1, 1, 2, 1, 3, 1);
        x.end(0, 2);
        DUE.gives(x, "one of three is left", x.ways(), 3);
        x.end(0, 9);
        DUE.gives(x, "none of three is left", x.ways(), 3);
        x.hands(1);
        DUE.gives(x, "of one stuck", x.ways(), 3);
    }

    /** 5 * 5 * 5 * 5 * 8 * 4 ROWS of weight 1: as many WAYS as weights. */
    private static void theMostWays() {
        EndTeller x = new EndTeller();
        int[] rows = {5, 5, 5, 5, 8, 4};
        for (int r : rows) {
            int[] numbers = new int[2 * r];
            for (int k = 0; k < r; k++) {
                numbers[2 * k] = k + 1;
                numbers[2 * k + 1] = 1;
            }
            Lay.table(x, 0, numbers);
        }
        DUE.gives(x, "ways()", x.ways(), 20000);
        DUE.tells(x, "ends(0)", x.ends(0), 0, 1);
        DUE.tells(x, "ends(1)", x.ends(1), 1, 20000);
        DUE.tells(x, "ends(4)", x.ends(4), 128, 625);
        DUE.tells(x, "ends(7)", x.ends(7), 7, 8);
        DUE.tells(x, "ends(8)", x.ends(8), 1, 1);
        DUE.tells(x, "done(4, 7)", x.done(4, 7), 7, 8);
        DUE.gives(x, "promise(1, 8)", x.promise(1, 8), 7);
        DUE.gives(x, "surest()", x.surest(), 4);
        DUE.holds(x, "moves(4)", x.moves(4));
        x.fixed(1, 0);
        DUE.gives(x, "ways() with one of one row", x.ways(), 20000);
        x.cause(1, 2);
        DUE.refuses(x, "ways() with a cause", x.ways(), 9);
    }

    // ---- Promise 21: "The FRACTION is the chance that the END is on a day or ahead of it (0 or more) (5; 8; 9; 10)."

    private static void endsOnADayOrAheadOfIt() {
        EndTeller x = new EndTeller();
        Lay.table(x, 0, 0, 1, 3, 2, 99, 4);
        DUE.tells(x, "on day 0", x.ends(0), 1, 7);
        DUE.tells(x, "a day ahead of 3", x.ends(2), 1, 7);
        DUE.tells(x, "on day 3", x.ends(3), 3, 7);
        DUE.tells(x, "a day ahead of 99", x.ends(98), 3, 7);
        DUE.tells(x, "on day 99", x.ends(99), 1, 1);
        DUE.tells(x, "behind it", x.ends(100), 1, 1);
    }

    private static void endsOnDayNoughtOrMore() {
        EndTeller x = Lay.fixed(1);
        DUE.tells(x, "ends(0)", x.ends(0), 0, 1);
        DUE.tells(x, "ends of the most", x.ends(MOST), 1, 1);
        DUE.refuses(x, "ends(-1)", x.ends(-1), 5);
        DUE.refuses(x, "ends of the least", x.ends(LEAST), 5);
        EndTeller s = Lay.stuck();
        DUE.refuses(s, "5 ahead of 8", s.ends(-1), 5);
        EndTeller g = Lay.great();
        DUE.refuses(g, "5 ahead of 9", g.ends(-1), 5);
        EndTeller n = Lay.withoutWays();
        DUE.refuses(n, "5 ahead of 10", n.ends(-1), 5);
    }

    // ---- Promise 22: "Likewise of a PART (2; 5; 8; 9; 10)."

    private static void doneOnADayOrAheadOfIt() {
        EndTeller x = new EndTeller();
        Lay.table(x, 0, 0, 1, 3, 2, 99, 4);
        x.fixed(99, 0);
        DUE.tells(x, "on day 0", x.done(0, 0), 1, 7);
        DUE.tells(x, "a day ahead of 3", x.done(0, 2), 1, 7);
        DUE.tells(x, "on day 3", x.done(0, 3), 3, 7);
        DUE.tells(x, "on day 99", x.done(0, 99), 1, 1);
        DUE.tells(x, "on the last day of all", x.done(0, MOST), 1, 1);
        DUE.tells(x, "another one ahead of its day", x.done(1, 98), 0, 1);
        DUE.refuses(x, "done(0, -1)", x.done(0, -1), 5);
        DUE.refuses(x, "done(0, least)", x.done(0, LEAST), 5);
    }

    private static void doneOfNoPart() {
        EndTeller x = new EndTeller();
        DUE.refuses(x, "done(0, 0) of none", x.done(0, 0), 2);
        x.fixed(1, 0);
        for (int wrong : new int[] {-1, 1, 10, LEAST, MOST}) {
            DUE.refuses(x, "done(" + wrong + ", 0)", x.done(wrong, 0), 2);
            DUE.refuses(x, "2 ahead of 5", x.done(wrong, -1), 2);
        }
        EndTeller s = Lay.stuck();
        DUE.refuses(s, "2 ahead of 8", s.done(2, 0), 2);
        DUE.refuses(s, "5 ahead of 8", s.done(0, -1), 5);
        EndTeller g = Lay.great();
        DUE.refuses(g, "2 ahead of 9", g.done(1, 0), 2);
        DUE.refuses(g, "5 ahead of 9", g.done(0, -1), 5);
        EndTeller n = Lay.withoutWays();
        DUE.refuses(n, "2 ahead of 10", n.done(2, 0), 2);
        DUE.refuses(n, "5 ahead of 10", n.done(0, -1), 5);
    }

    // ---- Promise 23: "The least day for which the chance that the END is behind it is at most n / d (0 to d; d 1 to
    // 1,000,000) (5; 8; 9; 10)."

    private static void promiseAtMostTheShare() {
        EndTeller x = new EndTeller();
        Lay.table(x, 0, 2, 1, 5, 1, 9, 1);
        DUE.gives(x, "just a third", x.promise(1, 3), 5);
        DUE.gives(x, "a little less than a third", x.promise(333333, 1000000), 9);
        DUE.gives(x, "a little more than a third", x.promise(333334, 1000000), 5);
        DUE.gives(x, "just two thirds", x.promise(2, 3), 2);
        DUE.gives(x, "a little less than two thirds", x.promise(666666, 1000000), 5);
        DUE.gives(x, "a little more than two thirds", x.promise(666667, 1000000), 2);
        DUE.gives(x, "a little less than all", x.promise(999999, 1000000), 2);
    }

    private static void promiseOfShares() {
        EndTeller x = Lay.fixed(7);
        DUE.gives(x, "promise(0, 1)", x.promise(0, 1), 7);
        DUE.gives(x, "promise(1, 1)", x.promise(1, 1), 0);
        DUE.gives(x, "promise(0, 1000000)", x.promise(0, 1000000), 7);
        DUE.gives(x, "promise(1000000, 1000000)", x.promise(1000000, 1000000), 0);
        int[][] wrong = {{-1, 1}, {2, 1}, {0, 0}, {1, 0}, {0, -1}, {-1, -1}, {0, 1000001}, {1000001, 1000001},
            {1000001, 1000000}, {LEAST, 1}, {0, LEAST}, {LEAST, LEAST}, {MOST, MOST}, {0, MOST}, {MOST, 1}};
        for (int[] w : wrong) {
            DUE.refuses(x, "promise(" + w[0] + ", " + w[1] + ")", x.promise(w[0], w[1]), 5);
        }
        EndTeller s = Lay.stuck();
        DUE.refuses(s, "5 ahead of 8", s.promise(2, 1), 5);
        EndTeller g = Lay.great();
        DUE.refuses(g, "5 ahead of 9", g.promise(2, 1), 5);
        EndTeller n = Lay.withoutWays();
        DUE.refuses(n, "5 ahead of 10", n.promise(2, 1), 5);
    }

    private static void promiseOfTheLeastDay() {
        EndTeller x = new EndTeller();
        DUE.gives(x, "of no parts", x.promise(0, 1), 0);
        Lay.table(x, 0, 0, 1, 4, 1);
        DUE.gives(x, "half end on day 0", x.promise(1, 2), 0);
        DUE.gives(x, "none behind it", x.promise(0, 1), 4);
        x.end(0, 4);
        DUE.gives(x, "a day ahead of any END, at all risk", x.promise(1, 1), 0);
        DUE.gives(x, "at some risk", x.promise(1, 2), 4);
    }

    private static void promiseOfGreatWorks() {
        EndTeller x = Lay.almostGreat();
        DUE.gives(x, "19,999 in 20,000 behind day 1", x.promise(19999, 20000), 1);
        DUE.gives(x, "by a millionth less", x.promise(999949, 1000000), 2);
        DUE.gives(x, "just as much by a million", x.promise(999950, 1000000), 1);
    }

    // ---- Promise 24: "The FRACTION is the mean of the END (8; 9; 10)."

    private static void meanOfWaysLeft() {
        EndTeller x = new EndTeller();
        DUE.tells(x, "of no parts", x.mean(), 0, 1);
        Lay.table(x, 0, 0, 999, 99, 1);
        DUE.tells(x, "999 times 0 and 99", x.mean(), 99, 1000);
        x.today(0);
        DUE.tells(x, "the one that is left", x.mean(), 99, 1);
        x.today(99);
        DUE.refuses(x, "none is left", x.mean(), 10);
    }

    // ---- Promise 25: "The FRACTION is the SPREAD (8; 9; 10)."

    private static void spreadOfOneWay() {
        EndTeller x = Lay.fixed(99);
        DUE.tells(x, "of one way", x.spread(), 0, 1);
        EndTeller y = new EndTeller();
        Lay.table(y, 0, 1, 1, 2, 1);
        y.end(0, 2);
        DUE.tells(y, "of one that is left", y.spread(), 0, 1);
        y.end(0, 3);
        DUE.refuses(y, "of none that is left", y.spread(), 10);
    }

    // "(each by its weight; one may be the same)"
    private static void spreadMayTakeOneTwice() {
        EndTeller x = new EndTeller();
        Lay.table(x, 0, 0, 1, 2, 1);
        DUE.tells(x, "two ways, two days apart", x.spread(), 1, 1);
        x.clear();
        Lay.table(x, 0, 0, 1, 4, 3);
        DUE.tells(x, "by weights 1 and 3, four days apart", x.spread(), 3, 2);
    }

    private static void spreadOfTheGreatest() {
        EndTeller x = Lay.almostGreat();
        DUE.tells(x, "1 and 19,999, a day apart", x.spread(), 19999, 200000000);
        EndTeller y = new EndTeller();
        y.hands(1);
        for (int p = 0; p < 10; p++) {
            y.fixed(99, 1);
        }
        y.cause(1, 2);
        y.cause(5, 10);
        y.cause(2, 4);
        y.cause(4, 8);
        for (int p = 0; p < 10; p++) {
            for (int c = 0; c < 4; c++) {
                y.late(p, c, 99);
            }
        }
        // of how many causes come two ways differ by 280 / 256
        DUE.tells(y, "ends from 990 to 4,950", y.spread(), 990 * 35 / 2, 16);
        DUE.gives(y, "the latest END of all", y.promise(0, 1), 4950);
    }

    // ---- Promise 26: "The FRACTION is what is left of the SPREAD if a PART is known (2; 8; 9; 10)."

    private static void sureOfNoPart() {
        EndTeller x = new EndTeller();
        DUE.refuses(x, "sure(0) of none", x.sure(0), 2);
        x.fixed(1, 0);
        for (int wrong : new int[] {-1, 1, 10, LEAST, MOST}) {
            DUE.refuses(x, "sure(" + wrong + ")", x.sure(wrong), 2);
        }
        EndTeller s = Lay.stuck();
        DUE.refuses(s, "2 ahead of 8", s.sure(2), 2);
        EndTeller g = Lay.great();
        DUE.refuses(g, "2 ahead of 9", g.sure(1), 2);
        EndTeller n = Lay.withoutWays();
        DUE.refuses(n, "2 ahead of 10", n.sure(2), 2);
    }

    // "the mean, over its ROWS by the weight of the WAYS left with each, of the SPREAD of these"
    private static void sureOfRowsThatAreNotLeft() {
        EndTeller x = new EndTeller();
        Lay.table(x, 0, 1, 1, 2, 1, 3, 1, 4, 1);
        Lay.table(x, 0, 0, 1, 6, 1);
        x.need(1, 0, true);
        DUE.tells(x, "with all rows", x.sure(0), 3, 1);
        x.end(0, 3);
        DUE.tells(x, "with one row that is left", x.sure(0), 3, 1);
        DUE.tells(x, "the other known", x.sure(1), 0, 1);
        x.end(0, -1);
        x.today(2);
        DUE.tells(x, "with two rows that are left", x.sure(0), 3, 1);
        x.end(1, 9);
        DUE.tells(x, "with one way that is left", x.sure(0), 0, 1);
    }

    // "GREAT, too, if .. the lower number of the sum, made less each time, passes 1,000,000": 1,000,000 itself can't
    // be, as no ROW's rest has 5 to the power 6 in its lower number (it divides what is left with a ROW of weight 1,
    // at most 10,000, as there are two ROWS); next to it are 999,999 and 1,000,001

    private static void sureUpToAMillion() {
        EndTeller x = Lay.chain(new int[] {1, 1}, new int[] {1, 1}, new int[] {919, 80, 921}, 2);
        // left are 921 and 80 with the first row, 80 and 919 with the second: by 1001 * 999 * 2,000
        long above = 2L * 921 * 80 * 999 + 2L * 80 * 919 * 1001;
        DUE.holds(x, "sure(0) by 999,999", x.sure(0));
        DUE.is("its fraction", BigInteger.valueOf(above).multiply(BigInteger.valueOf(x.lower()))
            .equals(BigInteger.valueOf(999999L * 2000).multiply(BigInteger.valueOf(x.upper()))), true);
        DUE.gives(x, "surest()", x.surest(), 2);
    }

    /**
     * A PART of 5 or 6 days beside one of 2 to 6 behind one of 0 or 1; behind both one that ended on day 7. With 5
     * days only those are left which are 6 together, 10 and 1,000 by weight; with 6 all up to 6, 9,901 by weight.
     */
    private static EndTeller besides() {
        EndTeller x = new EndTeller();
        Lay.table(x, 0, 5, 1, 6, 1);
        Lay.table(x, 0, 0, 2, 1, 1);
        Lay.table(x, 0, 2, 297, 3, 1000, 4, 1000, 5, 1000, 6, 5);
        x.fixed(1, 0);
        x.fixed(90, 0);
        x.need(2, 1, true);
        x.need(3, 0, true);
        x.need(3, 2, true);
        x.need(4, 1, true);
        x.end(3, 7);
        return x;
    }

    private static void surePastAMillion() {
        EndTeller x = besides();
        DUE.refuses(x, "sure(0) by 101 * 9,901 = 1,000,001", x.sure(0), 9);
        DUE.refuses(x, "surest()", x.surest(), 9);
        DUE.tells(x, "sure(1)", x.sure(1), 0, 1);
        DUE.holds(x, "spread()", x.spread());
        DUE.holds(x, "mean()", x.mean());
        EndTeller y = Lay.chain(new int[] {1, 1}, new int[] {1, 2}, new int[] {971, 906, 997}, 2);
        DUE.refuses(y, "sure(0) by 1,000,004", y.sure(0), 9);
    }

    private static void sureMadeLessEachTime() {
        EndTeller x = new EndTeller();
        Lay.table(x, 0, 1, 1, 2, 1);
        Lay.table(x, 0, 0, 1, 10, 1000);
        x.need(1, 0, true);
        // 20,000 by 1,001 with either row: 1,001 * 1,001 if it were not made less
        DUE.tells(x, "sure(0)", x.sure(0), 20000, 1001 * 1001);
    }

    /** The lower numbers of the sums are 1,419, then 1,658,811, and 150,801 at last. */
    private static void sureRowByRow() {
        EndTeller x = Lay.chain(new int[] {1, 1, 2}, new int[] {3, 4, 2}, new int[] {39, 179, 125, 187, 5}, 3);
        DUE.refuses(x, "sure(0), great on its way", x.sure(0), 9);
        DUE.refuses(x, "surest()", x.surest(), 9);
        EndTeller y = Lay.chain(new int[] {2, 1, 1, 1}, new int[] {1, 2}, new int[] {2, 183, 517, 309, 311}, 3);
        DUE.refuses(y, "sure(0), great on its way", y.sure(0), 9);
    }

    private static void sureOfAFractionPastAMillion() {
        EndTeller x = new EndTeller();
        x.fixed(3, 0);
        Lay.table(x, 0, 1, 1, 2, 999);
        Lay.table(x, 0, 1, 1, 2, 18);
        x.need(1, 0, true);
        x.need(2, 1, true);
        // with the first known as much as SPREAD: its sum is by 19,000 at most, the FRACTION by 19,000 times 19,000
        DUE.holds(x, "spread()", x.spread());
        long upper = x.upper();
        long lower = x.lower();
        DUE.is("a lower number past 1,000,000", lower > 1000000, true);
        DUE.tells(x, "sure(0)", x.sure(0), upper, lower);
    }

    // ---- Promise 27: "The first PART with which that is least (2: there is none; 8; 9; 10)."

    private static void surestOfNone() {
        EndTeller x = new EndTeller();
        DUE.refuses(x, "of no parts", x.surest(), 2);
        x.today(5);
        DUE.refuses(x, "of no parts on a day", x.surest(), 2);
        for (int c = 0; c < 4; c++) {
            x.cause(1, 12);
        }
        DUE.refuses(x, "2 ahead of 9", x.surest(), 2);
    }

    private static void surestIsTheFirst() {
        DUE.is("of one", Lay.fixed(1).surest(), 0);
        DUE.is("of ten alike", Lay.fixed(1, 1, 1, 1, 1, 1, 1, 1, 1, 1).surest(), 0);
        EndTeller x = Lay.fixed(1, 2, 3, 4, 5, 6, 7, 8, 9);
        Lay.table(x, 0, 10, 1, 20, 1);
        DUE.gives(x, "the last of ten", x.surest(), 9);
        EndTeller y = Lay.fixed(1);
        Lay.table(y, 0, 10, 1, 20, 1);
        Lay.table(y, 0, 10, 1, 20, 1);
        DUE.gives(y, "the first of two alike", y.surest(), 1);
    }

    /** What is left with the one and with the other is less than a day apart. */
    private static void surestByLittle() {
        EndTeller x = new EndTeller();
        Lay.table(x, 0, 1, 1, 2, 1);
        Lay.table(x, 0, 1, 1, 3, 5);
        x.need(1, 0, true);
        DUE.tells(x, "with the first", x.sure(0), 5, 9);
        DUE.tells(x, "with the second", x.sure(1), 1, 2);
        x.hands(0);
        DUE.gives(x, "the second by 1 / 18", x.surest(), 1);
        x.clear();
        Lay.table(x, 0, 1, 1, 3, 5);
        Lay.table(x, 0, 1, 1, 2, 1);
        x.need(1, 0, true);
        DUE.gives(x, "the first by 1 / 18", x.surest(), 0);
        x.clear();
        Lay.table(x, 0, 1, 1, 2, 1);
        Lay.table(x, 0, 1, 1, 2, 1);
        x.need(1, 0, true);
        DUE.gives(x, "the first of two with which it is the same", x.surest(), 0);
        Lay.table(x, 0, 1, 1, 30, 1);
        Lay.table(x, 0, 1, 1, 30, 1);
        x.need(2, 1, true);
        x.need(3, 2, true);
        DUE.gives(x, "the first of two with which it is least", x.surest(), 2);
    }

    private static void surestOfGreatSums() {
        EndTeller x = besides();
        DUE.refuses(x, "the first is great, the second leaves nothing", x.surest(), 9);
        x.end(3, -1);
        DUE.is("without what came", x.surest() >= 0 && x.status() == 0, true);
        EndTeller y = new EndTeller();
        y.fixed(0, 0);
        Lay.table(y, 0, 5, 1, 6, 1);
        Lay.table(y, 0, 1, 1, 2, 2);
        Lay.table(y, 0, 0, 971, 1, 906, 2, 997);
        y.fixed(90, 0);
        y.need(2, 1, true);
        y.need(3, 2, true);
        y.need(4, 2, true);
        y.end(3, 8);
        DUE.holds(y, "the first is not great", y.sure(0));
        DUE.refuses(y, "the second is", y.sure(1), 9);
        DUE.refuses(y, "great by any", y.surest(), 9);
    }

    // ---- Promise 28: "The FRACTION is the share of the WAYS that are left in which the END would be later if a PART
    // took a day more (2; 8; 9; 10)."

    private static void movesIsLaterAlone() {
        EndTeller x = Lay.fixed(3, 4, 4);
        DUE.tells(x, "up to the END, but not behind it", x.moves(0), 0, 1);
        DUE.tells(x, "one of two that end last", x.moves(1), 1, 1);
        DUE.tells(x, "the other one", x.moves(2), 1, 1);
        EndTeller y = Lay.fixed(0);
        DUE.tells(y, "a part of no days", y.moves(0), 1, 1);
        EndTeller z = Lay.fixed(99);
        for (int c = 0; c < 4; c++) {
            z.cause(1, 2);
            z.late(0, c, 99);
        }
        DUE.tells(z, "past the latest that a part can take", z.moves(0), 1, 1);
    }

    private static void movesOfNoPart() {
        EndTeller x = new EndTeller();
        DUE.refuses(x, "moves(0) of none", x.moves(0), 2);
        x.fixed(1, 0);
        for (int wrong : new int[] {-1, 1, 10, LEAST, MOST}) {
            DUE.refuses(x, "moves(" + wrong + ")", x.moves(wrong), 2);
        }
        EndTeller s = Lay.stuck();
        DUE.refuses(s, "2 ahead of 8", s.moves(2), 2);
        EndTeller g = Lay.great();
        DUE.refuses(g, "2 ahead of 9", g.moves(1), 2);
        EndTeller n = Lay.withoutWays();
        DUE.refuses(n, "2 ahead of 10", n.moves(2), 2);
    }

    private static void movesByWeight() {
        EndTeller x = Lay.almostGreat();
        // either is of 2 days in all but one of the weights of each
        DUE.tells(x, "moves(0)", x.moves(0), 999 * 20 + 1, 20000);
        DUE.tells(x, "moves(1)", x.moves(1), 19 * 1000 + 1, 20000);
        x.end(0, 1);
        DUE.tells(x, "of the ways that are left", x.moves(0), 1, 20);
    }

    // ---- "STATUS of a call is the first of these that holds: .. 8 a PART is STUCK. 9 GREAT. 10 no WAYS are left."

    private static void stuckAheadOfGreatAheadOfNoWays() {
        EndTeller x = Lay.great();
        x.end(0, 9999);
        allRefuse(x, "9 ahead of 10", 9);
        x.fixed(1, 2);
        x.hands(1);
        allRefuse(x, "8 ahead of 9 and 10", 8);
        DUE.refuses(x, "ways() has 9 alone", x.ways(), 9);
        EndTeller y = Lay.withoutWays();
        allRefuse(y, "10 alone", 10);
        y.fixed(1, 2);
        y.hands(1);
        allRefuse(y, "8 ahead of 10", 8);
        EndTeller s = Lay.stuck();
        allRefuse(s, "8 alone", 8);
        EndTeller g = Lay.great();
        allRefuse(g, "9 alone", 9);
    }
}
