/** How a WAY is stepped, what CAME, and promises 29 and 30: a test for each sentence that names a bound. */
public final class SteppingBounds {
    private static final Due DUE = new Due("SteppingBounds");
    private static final int LEAST = Integer.MIN_VALUE;
    private static final int MOST = Integer.MAX_VALUE;

    private SteppingBounds() {
    }

    public static void main(String[] args) {
        endWithoutParts();
        takesItsDaysAndThoseOfCauses();
        takesTheMost();
        beginInOrderOfNumbers();
        beginPastOneThatWaits();
        beginAsSoonAsNeedsHaveEnded();
        beginWithJustEnoughHands();
        handsAreFreeOnTheDayOfAnEnd();
        allEndAheadOfAnyThatBegin();
        noHandsAreAlwaysFree();
        stuckByOneHandTooMany();
        stuckIfItTakesNoDays();
        stuckThoughItHasEnded();
        noDaysEndAsTheyBegin();
        noDaysHandOnToGreaterNumbers();
        noDaysGiveBackTheirHands();
        noDaysWaitForHands();
        lesserNumbersBeginOnThatDay();
        lastOneEnds();
        endedJustOnThatDay();
        otherOnesEndBehindToday();
        endedAndToday();
        todayWithoutParts();
        noTodayAtFirst();
        endOfDays();
        endOfNoPart();
        endNotAnyMore();
        todayOfDays();
        todayNotAnyMore();
        DUE.close();
    }

    /** The days on which the PARTS end in a work of one WAY, one by one. */
    private static void endsAre(EndTeller x, String when, int... days) {
        int last = 0;
        for (int p = 0; p < days.length; p++) {
            String part = when + ": done(" + p + ", ";
            DUE.tells(x, part + days[p] + ")", x.done(p, days[p]), 1, 1);
            if (days[p] > 0) {
                DUE.tells(x, part + (days[p] - 1) + ")", x.done(p, days[p] - 1), 0, 1);
            }
            last = Math.max(last, days[p]);
        }
        DUE.tells(x, when + ": mean()", x.mean(), last, 1);
    }

    private static EndTeller house(int hands, int... daysAndHands) {
        EndTeller x = new EndTeller();
        x.hands(hands);
        for (int k = 0; k < daysAndHands.length; k += 2) {
            x.fixed(daysAndHands[k], daysAndHands[k + 1]);
        }
        return x;
    }

    // "The END is the day on which the last one ends (0 without PARTS)."
    private static void endWithoutParts() {
        EndTeller x = new EndTeller();
        DUE.tells(x, "ends(0)", x.ends(0), 1, 1);
        DUE.tells(x, "mean()", x.mean(), 0, 1);
        DUE.tells(x, "spread()", x.spread(), 0, 1);
        DUE.gives(x, "promise(0, 1)", x.promise(0, 1), 0);
        x.cause(1, 2);
        DUE.tells(x, "ends(0) with a cause", x.ends(0), 1, 1);
        DUE.gives(x, "ways() with a cause", x.ways(), 2);
    }

    // "Of a WAY a PART TAKES the DAYS of its ROW, and those by which CAUSES that come make it LATE."
    private static void takesItsDaysAndThoseOfCauses() {
        EndTeller x = Lay.fixed(1);
        x.cause(1, 2);
        x.cause(1, 2);
        x.late(0, 0, 10);
        x.late(0, 1, 40);
        int[] days = {1, 11, 41, 51};
        for (int k = 0; k < 4; k++) {
            long due = k + 1;
            long divisor = due == 4 ? 4 : due == 2 ? 2 : 1;
            DUE.tells(x, "ends(" + days[k] + ")", x.ends(days[k]), due / divisor, 4 / divisor);
            DUE.holds(x, "ends(" + (days[k] - 1) + ")", x.ends(days[k] - 1));
            DUE.is("a day ahead it is not", x.upper() * 4 == k * x.lower(), true);
        }
    }

    private static void takesTheMost() {
        EndTeller x = Lay.fixed(99);
        for (int c = 0; c < 4; c++) {
            x.cause(1, 2);
            x.late(0, c, 99);
        }
        DUE.gives(x, "99 days and four times 99", x.promise(0, 1), 495);
        DUE.tells(x, "ends(494)", x.ends(494), 15, 16);
        DUE.tells(x, "ends(99)", x.ends(99), 1, 16);
        DUE.tells(x, "ends(98)", x.ends(98), 0, 1);
    }

    // "PARTS begin, in order of their numbers"
    private static void beginInOrderOfNumbers() {
        endsAre(house(1, 3, 1, 2, 1, 1, 1), "one hand", 3, 5, 6);
        endsAre(house(2, 3, 1, 2, 1, 1, 1), "two hands", 3, 2, 3);
        EndTeller x = house(1, 2, 1, 5, 1, 4, 1);
        x.need(1, 0, true);
        endsAre(x, "on day 2 the lesser number goes first", 2, 7, 11);
    }

    private static void beginPastOneThatWaits() {
        endsAre(house(3, 4, 2, 1, 2, 2, 1), "the second waits for hands, the third does not", 4, 5, 2);
        EndTeller x = house(1, 4, 0, 1, 1, 2, 1);
        x.need(1, 0, true);
        endsAre(x, "the second waits for its need, the third does not", 4, 5, 2);
    }

    // "as soon as all they NEED have ended"
    private static void beginAsSoonAsNeedsHaveEnded() {
        EndTeller x = Lay.fixed(2, 5, 1);
        x.need(2, 0, true);
        x.need(2, 1, true);
        endsAre(x, "not ahead of the later one", 2, 5, 6);
        x.need(2, 1, false);
        endsAre(x, "on the day of the only one", 2, 5, 3);
    }

    // "and so many HANDS are free as it has"
    private static void beginWithJustEnoughHands() {
        endsAre(house(9, 3, 4, 3, 5), "just enough", 3, 3);
        endsAre(house(9, 3, 4, 3, 6), "one too few", 3, 6);
        endsAre(house(8, 3, 4, 3, 5), "one less in the house", 3, 6);
        endsAre(house(30, 1, 9, 1, 9, 1, 9, 1, 3), "all of the house", 1, 1, 1, 1);
        endsAre(house(30, 1, 9, 1, 9, 1, 9, 1, 4), "one more than the house", 1, 1, 1, 2);
    }

    // "it ends so many days later as it TAKES, its HANDS are free then"
    private static void handsAreFreeOnTheDayOfAnEnd() {
        endsAre(house(1, 1, 1, 1, 1), "the next begins on the day of the end", 1, 2);
        endsAre(house(2, 1, 2, 7, 1, 1, 1), "all of them", 1, 8, 2);
    }

    // "on one day all that end do so ahead of any that begin"
    private static void allEndAheadOfAnyThatBegin() {
        endsAre(house(2, 2, 1, 2, 1, 1, 2, 1, 1), "both hands are free for the third", 2, 2, 3, 4);
        EndTeller x = house(2, 2, 1, 1, 1, 5, 1, 2, 1);
        x.need(1, 0, true);
        // the third holds the other hand from day 0 to 5; on day 2 the first's goes to the second, not to the fourth
        endsAre(x, "the first and its hand on day 2", 2, 3, 5, 5);
    }

    // "HANDS (0 to 9)": one that has none never waits for any
    private static void noHandsAreAlwaysFree() {
        endsAre(house(1, 5, 1, 2, 0, 1, 0), "no hands are asked", 5, 2, 1);
    }

    // "of one that has more than the house none ever are: STUCK"
    private static void stuckByOneHandTooMany() {
        EndTeller x = house(9, 1, 9);
        endsAre(x, "as many as the house", 1);
        x.hands(8);
        DUE.refuses(x, "mean() of one more than the house", x.mean(), 8);
        DUE.refuses(x, "ends(0)", x.ends(0), 8);
        DUE.refuses(x, "done(0, 0)", x.done(0, 0), 8);
        DUE.refuses(x, "promise(1, 1)", x.promise(1, 1), 8);
        DUE.refuses(x, "spread()", x.spread(), 8);
        DUE.refuses(x, "sure(0)", x.sure(0), 8);
        DUE.refuses(x, "surest()", x.surest(), 8);
        DUE.refuses(x, "moves(0)", x.moves(0), 8);
        DUE.gives(x, "ways() all the same", x.ways(), 1);
        x.hands(9);
        endsAre(x, "as many as the house again", 1);
        for (int place = 0; place < 10; place++) {
            EndTeller y = new EndTeller();
            y.hands(2);
            for (int p = 0; p < 10; p++) {
                y.fixed(1, p == place ? 3 : 2);
            }
            DUE.refuses(y, "stuck at place " + place, y.mean(), 8);
        }
    }

    private static void stuckIfItTakesNoDays() {
        EndTeller x = house(1, 0, 2);
        DUE.refuses(x, "a part of no days and two hands", x.mean(), 8);
    }

    private static void stuckThoughItHasEnded() {
        EndTeller x = house(1, 3, 2);
        x.end(0, 3);
        DUE.refuses(x, "a part that was told to have ended", x.mean(), 8);
        x.end(0, 4);
        DUE.refuses(x, "8 ahead of 10", x.mean(), 8);
    }

    // "one that TAKES 0 days ends as it begins"
    private static void noDaysEndAsTheyBegin() {
        endsAre(Lay.fixed(0), "on day 0", 0);
        endsAre(Lay.fixed(0, 0, 0, 0, 0, 0, 0, 0, 0, 0), "ten on day 0", 0, 0, 0, 0, 0, 0, 0, 0, 0, 0);
        EndTeller x = Lay.fixed(3, 0, 2);
        x.need(1, 0, true);
        x.need(2, 1, true);
        endsAre(x, "on day 3", 3, 3, 5);
        EndTeller y = Lay.fixed(0);
        y.cause(1, 2);
        y.late(0, 0, 1);
        DUE.tells(y, "a cause makes it a day", y.ends(0), 1, 2);
    }

    private static void noDaysHandOnToGreaterNumbers() {
        EndTeller x = house(1, 0, 1, 0, 1, 0, 1, 0, 1, 0, 1, 0, 1, 0, 1, 0, 1, 0, 1, 4, 1);
        for (int p = 1; p < 10; p++) {
            x.need(p, p - 1, true);
        }
        endsAre(x, "nine hand on at once", 0, 0, 0, 0, 0, 0, 0, 0, 0, 4);
    }

    private static void noDaysGiveBackTheirHands() {
        endsAre(house(2, 0, 2, 3, 2, 0, 2), "the hands of one of no days", 0, 3, 3);
        endsAre(house(1, 0, 1, 1, 1, 1, 1), "no more hands than they took", 0, 1, 2);
    }

    private static void noDaysWaitForHands() {
        endsAre(house(2, 3, 2, 0, 1), "not ahead of day 3", 3, 3);
        endsAre(house(2, 3, 1, 0, 1), "there is one free on day 0", 3, 0);
    }

    // "(and others may begin on that day, lesser numbers too)"
    private static void lesserNumbersBeginOnThatDay() {
        EndTeller x = house(2, 2, 1, 2, 2, 3, 1, 0, 1);
        x.need(3, 0, true);
        // on day 2 the first's hand is free; the third goes on to day 3, so the second waits, the fourth does not
        endsAre(x, "the fourth of no days on day 2", 2, 5, 3, 2);
        EndTeller y = house(3, 2, 3, 4, 3, 0, 3, 1, 3);
        y.need(2, 0, true);
        y.need(3, 2, true);
        endsAre(y, "on one day: an end, a lesser number, and what waits", 2, 6, 6, 7);
    }

    private static void lastOneEnds() {
        endsAre(Lay.fixed(9, 1, 1), "the first is the last to end", 9, 1, 1);
        EndTeller x = Lay.fixed(9, 1, 1);
        DUE.tells(x, "ends(8)", x.ends(8), 0, 1);
        DUE.tells(x, "ends(9)", x.ends(9), 1, 1);
    }

    // "The WAYS that are left are those in which each of these ends just on that day"
    private static void endedJustOnThatDay() {
        EndTeller x = new EndTeller();
        Lay.table(x, 0, 2, 1, 3, 2, 4, 4);
        int[] weights = {0, 0, 1, 2, 4, 0};
        for (int day = 0; day < weights.length; day++) {
            x.end(0, day);
            if (weights[day] == 0) {
                DUE.refuses(x, "ended on day " + day, x.mean(), 10);
            } else {
                DUE.tells(x, "ended on day " + day, x.mean(), day, 1);
            }
        }
        x.end(0, 3);
        x.fixed(9, 0);
        x.end(1, 8);
        DUE.refuses(x, "one of two did not", x.mean(), 10);
    }

    // "and, if there is a TODAY, each other one ends behind it"
    private static void otherOnesEndBehindToday() {
        EndTeller x = new EndTeller();
        Lay.table(x, 0, 2, 1, 3, 2, 4, 4);
        x.today(1);
        DUE.tells(x, "on day 1", x.ends(2), 1, 7);
        x.today(2);
        DUE.tells(x, "on day 2: none ends on it", x.ends(3), 1, 3);
        x.today(3);
        DUE.tells(x, "on day 3", x.ends(4), 1, 1);
        x.today(4);
        DUE.refuses(x, "on day 4", x.ends(4), 10);
        EndTeller y = Lay.fixed(5, 9);
        y.today(5);
        DUE.refuses(y, "each other one, not the last alone", y.ends(9), 10);
        y.today(4);
        DUE.tells(y, "both are behind day 4", y.ends(9), 1, 1);
        EndTeller z = Lay.fixed(0);
        z.today(0);
        DUE.refuses(z, "an end on day 0 is not behind it", z.ends(0), 10);
    }

    private static void endedAndToday() {
        EndTeller x = Lay.fixed(5, 9);
        x.today(5);
        x.end(0, 5);
        DUE.tells(x, "ended today", x.mean(), 9, 1);
        x.today(8);
        DUE.tells(x, "ended earlier", x.mean(), 9, 1);
        x.today(3);
        DUE.tells(x, "told to end behind today", x.mean(), 9, 1);
        x.today(9);
        DUE.refuses(x, "the other one has not ended", x.mean(), 10);
        x.end(1, 9);
        DUE.tells(x, "all have ended", x.mean(), 9, 1);
        x.today(9999);
        DUE.tells(x, "all have ended long ago", x.mean(), 9, 1);
    }

    private static void todayWithoutParts() {
        EndTeller x = new EndTeller();
        x.today(9999);
        DUE.tells(x, "no part is asked to end", x.ends(0), 1, 1);
        DUE.tells(x, "mean()", x.mean(), 0, 1);
    }

    // "(TODAY; none at first)"
    private static void noTodayAtFirst() {
        EndTeller x = Lay.fixed(0);
        DUE.tells(x, "an end on day 0", x.ends(0), 1, 1);
    }

    // ---- Promise 29: "A PART is told to have ended on a day (0 to 9,999), or not any more (NONE) (2; 5)."

    private static void endOfDays() {
        EndTeller x = Lay.fixed(1);
        DUE.holds(x, "end(0, 0)", x.end(0, 0));
        DUE.gives(x, "told(0, 4)", x.told(0, 4), 0);
        DUE.holds(x, "end(0, 9999)", x.end(0, 9999));
        for (int wrong : new int[] {-2, 10000, LEAST, MOST}) {
            DUE.refuses(x, "end(0, " + wrong + ")", x.end(0, wrong), 5);
            DUE.gives(x, "told(0, 4) still", x.told(0, 4), 9999);
        }
        DUE.refuses(x, "no way ends so late", x.mean(), 10);
    }

    private static void endOfNoPart() {
        EndTeller x = Lay.fixed(1);
        for (int wrong : new int[] {-1, 1, 10, LEAST, MOST}) {
            DUE.refuses(x, "end(" + wrong + ", 1)", x.end(wrong, 1), 2);
            DUE.refuses(x, "end(" + wrong + ", NONE)", x.end(wrong, -1), 2);
            DUE.refuses(x, "2 ahead of 5", x.end(wrong, 10000), 2);
        }
        DUE.gives(x, "told(0, 4)", x.told(0, 4), -1);
    }

    private static void endNotAnyMore() {
        EndTeller x = new EndTeller();
        Lay.table(x, 0, 2, 1, 4, 1);
        DUE.holds(x, "end(0, NONE) of one that was not told", x.end(0, -1));
        x.end(0, 4);
        DUE.tells(x, "told", x.mean(), 4, 1);
        DUE.holds(x, "end(0, NONE)", x.end(0, -1));
        DUE.tells(x, "not any more", x.mean(), 3, 1);
    }

    // ---- Promise 30: "TODAY is a day (0 to 9,999), or there is none (NONE) (5)."

    private static void todayOfDays() {
        EndTeller x = Lay.fixed(1);
        DUE.holds(x, "today(0)", x.today(0));
        DUE.tells(x, "on day 0", x.mean(), 1, 1);
        DUE.holds(x, "today(9999)", x.today(9999));
        DUE.refuses(x, "on day 9,999", x.mean(), 10);
        x.today(0);
        for (int wrong : new int[] {-2, 10000, LEAST, MOST}) {
            DUE.refuses(x, "today(" + wrong + ")", x.today(wrong), 5);
            DUE.tells(x, "on day 0 still", x.mean(), 1, 1);
        }
    }

    private static void todayNotAnyMore() {
        EndTeller x = Lay.fixed(1);
        DUE.holds(x, "today(NONE) where there is none", x.today(-1));
        x.today(1);
        DUE.refuses(x, "on day 1", x.mean(), 10);
        DUE.holds(x, "today(NONE)", x.today(-1));
        DUE.tells(x, "on no day", x.mean(), 1, 1);
    }
}
