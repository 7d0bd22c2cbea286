/** Promises 7 to 17, and what the terms say of PARTS and CAUSES: a test for each sentence that names a bound. */
public final class PartBounds {
    private static final Due DUE = new Due("PartBounds");
    private static final int LEAST = Integer.MIN_VALUE;
    private static final int MOST = Integer.MAX_VALUE;

    private PartBounds() {
    }

    public static void main(String[] args) {
        partOfRows();
        partOfHands();
        partOfTheTraysLength();
        partOfTheFirstNumbers();
        partOfDays();
        partOfRisingDays();
        partOfWeights();
        partOfCutNumbers();
        partOfWideNumbers();
        partWithoutCommonDivisor();
        partIsNoLongerTheTrays();
        partInThisOrder();
        atMostTenParts();
        fixedOfDays();
        fixedOfHands();
        eitherOfParts();
        eitherOfWeights();
        eitherOfHands();
        eitherOfRows();
        eitherOfGreatWeights();
        eitherWithoutCommonDivisor();
        eitherOfOneTwice();
        againOfParts();
        againOfShares();
        againOfHands();
        againOfRows();
        againOfDays();
        againOfGreatWeights();
        againWithoutCommonDivisor();
        daysWithNoneAreNoRows();
        needOfLesserNumbers();
        needOfNoPart();
        needTwiceAndNotAtAll();
        causeOfShares();
        atMostFourCauses();
        lateOfDays();
        lateOfNoPartOrCause();
        lateIsNoughtAtFirst();
        handsOfTheHouse();
        handsAreThirtyAtFirst();
        clearOfAll();
        clearGivesThirtyHands();
        clearOfNone();
        clearLeavesTheRest();
        toldOfWhat();
        toldOfNoPart();
        toldOfNoDay();
        rowOfRows();
        rowOfWhat();
        DUE.close();
    }

    private static void rowIs(EndTeller x, int part, int k, int days, int weight) {
        DUE.gives(x, "row(" + part + ", " + k + ", 0)", x.row(part, k, 0), days);
        DUE.gives(x, "row(" + part + ", " + k + ", 1)", x.row(part, k, 1), weight);
    }

    /** The whole TABLE, DAYS and WEIGHT in turn, and no ROW behind it. */
    private static void tableIs(EndTeller x, int part, int... numbers) {
        DUE.gives(x, "told(" + part + ", 0)", x.told(part, 0), numbers.length / 2);
        int all = 0;
        for (int k = 0; k < numbers.length / 2; k++) {
            rowIs(x, part, k, numbers[2 * k], numbers[2 * k + 1]);
            all += numbers[2 * k + 1];
        }
        DUE.gives(x, "told(" + part + ", 1)", x.told(part, 1), all);
        DUE.refuses(x, "row behind the last", x.row(part, numbers.length / 2, 0), 2);
    }

    private static void endIs(EndTeller x, String when, long day) {
        DUE.tells(x, when + ": mean()", x.mean(), day, 1);
    }

    // ---- Promise 7: "A PART more, whose TABLE are the first numbers of a TRAY, DAYS and WEIGHT in turn, so many ROWS
    // (1; 3; 5: ROWS 1 to 8, HANDS; 4; 5: a number; 7: in this order): its number."

    private static EndTeller withEightRows() {
        EndTeller x = new EndTeller();
        x.tray(0, 2, 18);
        for (int k = 0; k < 9; k++) {
            x.write(0, 2 * k, k);
            x.write(0, 2 * k + 1, k + 1);
        }
        return x;
    }

    private static void partOfRows() {
        EndTeller x = withEightRows();
        for (int rows : new int[] {0, -1, 9, LEAST, MOST, MOST / 2 + 1, (MOST / 2 + 1) + 1}) {
            DUE.refuses(x, "part of " + rows + " rows", x.part(0, rows, 0), 5);
        }
        DUE.gives(x, "part of 1 row", x.part(0, 1, 0), 0);
        tableIs(x, 0, 0, 1);
        DUE.gives(x, "part of 8 rows", x.part(0, 8, 0), 1);
        tableIs(x, 1, 0, 1, 1, 2, 2, 3, 3, 4, 4, 5, 5, 6, 6, 7, 7, 8);
    }

    private static void partOfHands() {
        EndTeller x = withEightRows();
        for (int hands : new int[] {-1, 10, LEAST, MOST}) {
            DUE.refuses(x, "part of " + hands + " hands", x.part(0, 1, hands), 5);
        }
        DUE.gives(x, "part of no hands", x.part(0, 1, 0), 0);
        DUE.gives(x, "told(0, 2)", x.told(0, 2), 0);
        DUE.gives(x, "part of 9 hands", x.part(0, 1, 9), 1);
        DUE.gives(x, "told(1, 2)", x.told(1, 2), 9);
    }

    private static void partOfTheTraysLength() {
        for (int rows = 1; rows <= 8; rows++) {
            EndTeller x = withEightRows();
            x.tray(1, 2, 2 * rows - 1);
            x.pour(0, 0, 1, 0, 2 * rows - 1);
            DUE.refuses(x, "part of a tray one too short", x.part(1, rows, 0), 4);
            x.tray(1, 2, 2 * rows);
            x.pour(0, 0, 1, 0, 2 * rows);
            DUE.gives(x, "part of a tray just as long", x.part(1, rows, 0), 0);
        }
    }

    private static void partOfTheFirstNumbers() {
        EndTeller x = new EndTeller();
        Lay.tray(x, 0, 2, 3, 1, 5, 1, -1, 0, 100, 1001);
        DUE.gives(x, "wrong numbers behind the rows do no harm", x.part(0, 2, 0), 0);
        tableIs(x, 0, 3, 1, 5, 1);
        DUE.refuses(x, "one row more has them", x.part(0, 3, 0), 5);
    }

    private static int partOf(long... numbers) {
        EndTeller x = new EndTeller();
        Lay.tray(x, 0, 3, numbers);
        int number = x.part(0, numbers.length / 2, 0);
        return number == 0 && x.status() == 0 ? 0 : number == -1 ? x.status() : -9;
    }

    // "DAYS (0 to 99)"
    private static void partOfDays() {
        DUE.is("days 0", partOf(0, 1), 0);
        DUE.is("days 99", partOf(99, 1), 0);
        DUE.is("days -1", partOf(-1, 1), 5);
        DUE.is("days 100", partOf(100, 1), 5);
        DUE.is("days 0 and 99", partOf(0, 1, 99, 1), 0);
        DUE.is("days -1 and 99", partOf(-1, 1, 99, 1), 5);
        DUE.is("days 0 and 100", partOf(0, 1, 100, 1), 5);
        DUE.is("the least days", partOf(Long.MIN_VALUE, 1), 5);
        DUE.is("the most days", partOf(Long.MAX_VALUE, 1), 5);
    }

    // "rising"
    private static void partOfRisingDays() {
        DUE.is("days 4, 5, 6", partOf(4, 1, 5, 1, 6, 1), 0);
        DUE.is("days 4, 4", partOf(4, 1, 4, 1), 5);
        DUE.is("days 5, 4", partOf(5, 1, 4, 1), 5);
        DUE.is("days 4, 6, 6", partOf(4, 1, 6, 1, 6, 1), 5);
        DUE.is("days 4, 6, 5", partOf(4, 1, 6, 1, 5, 1), 5);
        DUE.is("days 0, 0", partOf(0, 1, 0, 1), 5);
        DUE.is("days 1 to 7 and 7", partOf(1, 1, 2, 1, 3, 1, 4, 1, 5, 1, 6, 1, 7, 1, 7, 1), 5);
    }

    // "each with a WEIGHT (1 to 1,000)"
    private static void partOfWeights() {
        DUE.is("weight 1", partOf(5, 1), 0);
        DUE.is("weight 1,000", partOf(5, 1000), 0);
        DUE.is("weight 0", partOf(5, 0), 5);
        DUE.is("weight -1", partOf(5, -1), 5);
        DUE.is("weight 1,001", partOf(5, 1001), 5);
        DUE.is("weights 2,000 and 2,000, less than 1,000 without their divisor", partOf(5, 2000, 6, 2000), 5);
        DUE.is("the last of weight 0", partOf(5, 1, 6, 0), 5);
        DUE.is("the last of weight 1,001", partOf(5, 1, 6, 1001), 5);
        DUE.is("the least weight", partOf(5, Long.MIN_VALUE), 5);
        DUE.is("the most weight", partOf(5, Long.MAX_VALUE), 5);
    }

    private static void partOfCutNumbers() {
        EndTeller x = new EndTeller();
        Lay.tray(x, 0, 0, 256 + 5, 127, 6, 256 + 126);
        DUE.gives(x, "a part of numbers cut to 8 bits", x.part(0, 2, 0), 0);
        tableIs(x, 0, 5, 127, 6, 126);
        Lay.tray(x, 0, 0, 5, 128);
        DUE.refuses(x, "a weight of 128 is -128 in 8 bits", x.part(0, 1, 0), 5);
        Lay.tray(x, 1, 1, 65536 + 5, 65536 + 1000);
        DUE.gives(x, "a part of numbers cut to 16 bits", x.part(1, 1, 0), 1);
        tableIs(x, 1, 5, 1);
        Lay.tray(x, 2, 2, (1L << 32) + 5, (7L << 32) + 3, 6, 4);
        DUE.gives(x, "a part of numbers cut to 32 bits", x.part(2, 2, 0), 2);
        tableIs(x, 2, 5, 3, 6, 4);
    }

    private static void partOfWideNumbers() {
        long wide = 1L << 32;
        DUE.is("days past 32 bits", partOf(wide + 5, 1), 5);
        DUE.is("days of 2 to the power 32", partOf(wide, 1), 5);
        DUE.is("a weight past 32 bits", partOf(5, wide + 1), 5);
        DUE.is("days below 32 bits", partOf(5 - wide, 1), 5);
        DUE.is("second days past 32 bits", partOf(5, 1, wide + 6, 1), 5);
    }

    // "TABLES are made without a common divisor of their WEIGHTS."
    private static void partWithoutCommonDivisor() {
        EndTeller x = new EndTeller();
        Lay.table(x, 0, 7, 1000);
        tableIs(x, 0, 7, 1);
        Lay.table(x, 0, 7, 1000, 8, 1000);
        tableIs(x, 1, 7, 1, 8, 1);
        Lay.table(x, 0, 7, 6, 8, 10, 9, 15);
        tableIs(x, 2, 7, 6, 8, 10, 9, 15);
        Lay.table(x, 0, 7, 12, 8, 20, 9, 30);
        tableIs(x, 3, 7, 6, 8, 10, 9, 15);
        Lay.table(x, 0, 7, 999, 8, 1000);
        tableIs(x, 4, 7, 999, 8, 1000);
    }

    private static void partIsNoLongerTheTrays() {
        EndTeller x = new EndTeller();
        Lay.tray(x, 0, 2, 3, 1, 5, 2);
        x.part(0, 2, 0);
        x.write(0, 0, 4);
        x.write(0, 3, 9);
        tableIs(x, 0, 3, 1, 5, 2);
        x.tray(0, 0, 0);
        tableIs(x, 0, 3, 1, 5, 2);
    }

    private static void partInThisOrder() {
        EndTeller x = new EndTeller();
        Lay.tray(x, 0, 2, -1);
        DUE.refuses(x, "1 ahead of 5", x.part(4, 0, 10), 1);
        DUE.refuses(x, "3 ahead of 5", x.part(1, 0, 10), 3);
        DUE.refuses(x, "5 of rows ahead of 4", x.part(0, 9, 0), 5);
        DUE.refuses(x, "5 of hands ahead of 4", x.part(0, 1, 10), 5);
        DUE.refuses(x, "4 ahead of 5 of a number", x.part(0, 1, 0), 4);
        Lay.parts(x, 10);
        DUE.refuses(x, "4 ahead of 7", x.part(0, 1, 0), 4);
        Lay.tray(x, 0, 2, -1, 1);
        DUE.refuses(x, "5 of a number ahead of 7", x.part(0, 1, 0), 5);
        Lay.tray(x, 0, 2, 0, 1);
        DUE.refuses(x, "5 of hands ahead of 7", x.part(0, 1, -1), 5);
        DUE.refuses(x, "7 at last", x.part(0, 1, 0), 7);
    }

    // "PARTS, at most 10, are numbered as they come."; "7 one too many: a PART"
    private static void atMostTenParts() {
        EndTeller x = new EndTeller();
        for (int k = 0; k < 10; k++) {
            DUE.gives(x, "part " + k, k % 2 == 0 ? x.fixed(k, 0) : Lay.table(x, 0, k, 1), k);
        }
        for (int k = 0; k < 10; k++) {
            tableIs(x, k, k, 1);
        }
        DUE.refuses(x, "an eleventh by part", x.part(3, 1, 0), 7);
        DUE.refuses(x, "an eleventh by fixed", x.fixed(1, 0), 7);
        DUE.refuses(x, "an eleventh by either", x.either(0, 0, 1, 1, 0), 7);
        DUE.refuses(x, "an eleventh by again", x.again(0, 1, 2, 0), 7);
        DUE.refuses(x, "told(10, 0)", x.told(10, 0), 2);
        DUE.gives(x, "ways()", x.ways(), 1);
        x.clear();
        DUE.gives(x, "the first again", x.fixed(1, 0), 0);
    }

    // ---- Promise 8: "A PART more that has told DAYS (5; 7)."

    private static void fixedOfDays() {
        EndTeller x = new EndTeller();
        DUE.gives(x, "fixed(0, 0)", x.fixed(0, 0), 0);
        DUE.gives(x, "fixed(99, 0)", x.fixed(99, 0), 1);
        tableIs(x, 0, 0, 1);
        tableIs(x, 1, 99, 1);
        for (int days : new int[] {-1, 100, LEAST, MOST}) {
            DUE.refuses(x, "fixed(" + days + ", 0)", x.fixed(days, 0), 5);
        }
        Lay.parts(x, 8);
        DUE.refuses(x, "5 ahead of 7", x.fixed(100, 0), 5);
    }

    private static void fixedOfHands() {
        EndTeller x = new EndTeller();
        DUE.gives(x, "fixed(1, 9)", x.fixed(1, 9), 0);
        DUE.gives(x, "told(0, 2)", x.told(0, 2), 9);
        for (int hands : new int[] {-1, 10, LEAST, MOST}) {
            DUE.refuses(x, "fixed(1, " + hands + ")", x.fixed(1, hands), 5);
        }
        Lay.parts(x, 9);
        DUE.refuses(x, "5 ahead of 7", x.fixed(1, 10), 5);
    }

    // ---- Promise 9: "A PART more: EITHER of two, weights 1 to 99 (2; 5; 7)."

    private static void eitherOfParts() {
        EndTeller x = new EndTeller();
        DUE.refuses(x, "either of none", x.either(0, 0, 1, 1, 0), 2);
        x.fixed(1, 0);
        x.fixed(2, 0);
        for (int part : new int[] {-1, 2, 10, LEAST, MOST}) {
            DUE.refuses(x, "either(" + part + ", 0, ..)", x.either(part, 0, 1, 1, 0), 2);
            DUE.refuses(x, "either(0, " + part + ", ..)", x.either(0, part, 1, 1, 0), 2);
        }
        DUE.refuses(x, "2 ahead of 5", x.either(0, 2, 0, 100, 10), 2);
        Lay.parts(x, 8);
        DUE.refuses(x, "2 ahead of 7", x.either(0, 10, 1, 1, 0), 2);
        DUE.refuses(x, "5 ahead of 7", x.either(0, 1, 100, 1, 0), 5);
    }

    private static void eitherOfWeights() {
        EndTeller x = Lay.fixed(1, 2);
        for (int wrong : new int[] {0, -1, 100, LEAST, MOST}) {
            DUE.refuses(x, "either of v " + wrong, x.either(0, 1, wrong, 1, 0), 5);
            DUE.refuses(x, "either of w " + wrong, x.either(0, 1, 1, wrong, 0), 5);
        }
        DUE.gives(x, "either of 1 and 99", x.either(0, 1, 1, 99, 0), 2);
        tableIs(x, 2, 1, 1, 2, 99);
        DUE.gives(x, "either of 99 and 1", x.either(0, 1, 99, 1, 0), 3);
        tableIs(x, 3, 1, 99, 2, 1);
        DUE.gives(x, "either of 99 and 98", x.either(1, 0, 99, 98, 0), 4);
        tableIs(x, 4, 1, 98, 2, 99);
    }

    private static void eitherOfHands() {
        EndTeller x = Lay.fixed(1, 2);
        x.fixed(3, 5);
        for (int wrong : new int[] {-1, 10, LEAST, MOST}) {
            DUE.refuses(x, "either of " + wrong + " hands", x.either(0, 1, 1, 1, wrong), 5);
        }
        DUE.gives(x, "either of 9 hands", x.either(0, 2, 1, 1, 9), 3);
        DUE.gives(x, "told(3, 2)", x.told(3, 2), 9);
        DUE.gives(x, "either of no hands", x.either(0, 2, 1, 1, 0), 4);
        DUE.gives(x, "told(4, 2)", x.told(4, 2), 0);
    }

    // "7 one too many: .. a ROW .. of a TABLE made"
    private static void eitherOfRows() {
        EndTeller x = new EndTeller();
        Lay.table(x, 0, 0, 1, 2, 1, 4, 1, 6, 1);
        Lay.table(x, 0, 1, 1, 3, 1, 5, 1, 99, 1);
        Lay.table(x, 0, 1, 1, 3, 1, 5, 1, 7, 1, 99, 1);
        DUE.gives(x, "either of 4 and 4 rows", x.either(0, 1, 1, 1, 0), 3);
        tableIs(x, 3, 0, 1, 1, 1, 2, 1, 3, 1, 4, 1, 5, 1, 6, 1, 99, 1);
        DUE.refuses(x, "either of 4 and 5 rows", x.either(0, 2, 1, 1, 0), 7);
        DUE.gives(x, "either of 8 rows and 4 of the same", x.either(3, 1, 1, 1, 0), 4);
        DUE.gives(x, "told(4, 0)", x.told(4, 0), 8);
        DUE.refuses(x, "told(5, 0)", x.told(5, 0), 2);
    }

    // "7 one too many: .. a WEIGHT above 1,000 .. of a TABLE made"
    private static void eitherOfGreatWeights() {
        EndTeller x = new EndTeller();
        Lay.table(x, 0, 1, 1, 2, 999);
        Lay.table(x, 0, 1, 1, 2, 1000);
        x.fixed(3, 0);
        DUE.gives(x, "either with a weight of 1,000", x.either(0, 2, 1, 1, 0), 3);
        tableIs(x, 3, 1, 1, 2, 999, 3, 1000);
        DUE.refuses(x, "either with a weight of 1,001", x.either(1, 2, 1, 1, 0), 7);
        DUE.refuses(x, "told(4, 0)", x.told(4, 0), 2);
    }

    private static void eitherWithoutCommonDivisor() {
        EndTeller x = new EndTeller();
        // by 99 and 99: 99, 99 and 99 * 2, which are 1, 1 and 2
        Lay.table(x, 0, 1, 500, 2, 500);
        x.fixed(3, 0);
        DUE.gives(x, "either of 99 and 99", x.either(0, 1, 99, 99, 0), 2);
        tableIs(x, 2, 1, 1, 2, 1, 3, 2);
        // (98 + 49) * 501 and (98 + 49) * 501 * 500, past 1,000 until their divisor is gone
        Lay.table(x, 0, 1, 1, 2, 500);
        Lay.table(x, 0, 1, 1, 2, 500);
        DUE.gives(x, "either of two alike with great weights", x.either(3, 4, 98, 49, 0), 5);
        tableIs(x, 5, 1, 1, 2, 500);
    }

    private static void eitherOfOneTwice() {
        EndTeller x = new EndTeller();
        Lay.table(x, 0, 1, 2, 5, 3);
        DUE.gives(x, "either(0, 0, ..)", x.either(0, 0, 1, 99, 0), 1);
        tableIs(x, 1, 1, 2, 5, 3);
    }

    // ---- Promise 10: "A PART more: AGAIN of one, n from 1 to d - 1, d 2 to 99 (2; 5; 7)."

    private static void againOfParts() {
        EndTeller x = new EndTeller();
        DUE.refuses(x, "again of none", x.again(0, 1, 2, 0), 2);
        x.fixed(1, 0);
        for (int part : new int[] {-1, 1, 10, LEAST, MOST}) {
            DUE.refuses(x, "again(" + part + ", ..)", x.again(part, 1, 2, 0), 2);
        }
        DUE.refuses(x, "2 ahead of 5", x.again(1, 0, 0, 10), 2);
        Lay.parts(x, 9);
        DUE.refuses(x, "2 ahead of 7", x.again(10, 1, 2, 0), 2);
        DUE.refuses(x, "5 ahead of 7", x.again(0, 2, 2, 0), 5);
    }

    private static void againOfShares() {
        EndTeller x = Lay.fixed(3);
        int[][] wrong = {{0, 2}, {2, 2}, {-1, 2}, {3, 2}, {0, 1}, {1, 1}, {0, 0}, {-1, 0}, {1, 100}, {99, 100}, {0, 99},
            {99, 99}, {1, -1}, {-2, -1}, {1, LEAST}, {LEAST, MOST}, {1, MOST}, {MOST, MOST}, {LEAST, LEAST}};
        for (int[] w : wrong) {
            DUE.refuses(x, "again(0, " + w[0] + ", " + w[1] + ", 0)", x.again(0, w[0], w[1], 0), 5);
        }
        DUE.gives(x, "again(0, 1, 2, 0)", x.again(0, 1, 2, 0), 1);
        tableIs(x, 1, 3, 1, 6, 1);
        DUE.gives(x, "again(0, 1, 99, 0)", x.again(0, 1, 99, 0), 2);
        tableIs(x, 2, 3, 98, 6, 1);
        DUE.gives(x, "again(0, 98, 99, 0)", x.again(0, 98, 99, 0), 3);
        tableIs(x, 3, 3, 1, 6, 98);
    }

    private static void againOfHands() {
        EndTeller x = new EndTeller();
        x.fixed(1, 4);
        for (int wrong : new int[] {-1, 10, LEAST, MOST}) {
            DUE.refuses(x, "again of " + wrong + " hands", x.again(0, 1, 2, wrong), 5);
        }
        DUE.gives(x, "again of no hands", x.again(0, 1, 2, 0), 1);
        DUE.gives(x, "told(1, 2)", x.told(1, 2), 0);
        DUE.gives(x, "again of 9 hands", x.again(0, 1, 2, 9), 2);
        DUE.gives(x, "told(2, 2)", x.told(2, 2), 9);
    }

    private static void againOfRows() {
        EndTeller x = new EndTeller();
        Lay.table(x, 0, 1, 1, 2, 1, 3, 1, 4, 1);
        DUE.gives(x, "again of 1 to 4, which are 1 to 8", x.again(0, 1, 2, 0), 1);
        tableIs(x, 1, 1, 4, 2, 5, 3, 6, 4, 7, 5, 4, 6, 3, 7, 2, 8, 1);
        Lay.table(x, 0, 0, 1, 1, 1, 2, 1, 3, 1, 4, 1);
        DUE.refuses(x, "again of 0 to 4, which are 0 to 8", x.again(2, 1, 2, 0), 7);
        DUE.refuses(x, "told(3, 0)", x.told(3, 0), 2);
    }

    // "7 one too many: .. DAYS above 99 of a TABLE made"
    private static void againOfDays() {
        EndTeller x = Lay.fixed(49, 50, 99);
        DUE.gives(x, "again to 98 days", x.again(0, 1, 2, 0), 3);
        tableIs(x, 3, 49, 1, 98, 1);
        DUE.refuses(x, "again to 100 days", x.again(1, 1, 2, 0), 7);
        DUE.refuses(x, "again to 198 days", x.again(2, 1, 2, 0), 7);
        Lay.table(x, 0, 49, 1, 50, 1);
        DUE.refuses(x, "again to 98, 99 and 100 days", x.again(4, 1, 2, 0), 7);
        DUE.refuses(x, "told(5, 0)", x.told(5, 0), 2);
    }

    private static void againOfGreatWeights() {
        EndTeller x = new EndTeller();
        Lay.table(x, 0, 1, 1, 3, 10);
        DUE.gives(x, "again with a weight of 10 * 10 * 10", x.again(0, 10, 11, 0), 1);
        tableIs(x, 1, 1, 11, 2, 10, 3, 110, 4, 200, 6, 1000);
        Lay.table(x, 0, 1, 2, 3, 11);
        DUE.refuses(x, "again with a weight of 7 * 13 * 11 = 1,001", x.again(2, 1, 8, 0), 7);
        DUE.refuses(x, "told(3, 0)", x.told(3, 0), 2);
        DUE.gives(x, "again with a weight of 6 * 13 * 11", x.again(2, 1, 7, 0), 3);
        tableIs(x, 3, 1, 156, 2, 4, 3, 858, 4, 44, 6, 121);
    }

    private static void againWithoutCommonDivisor() {
        EndTeller x = new EndTeller();
        Lay.table(x, 0, 1, 1, 3, 1);
        // with 50 in 98: 48 * 2 each, and 50, 100, 50: all by 2
        DUE.gives(x, "again(0, 50, 98, 0)", x.again(0, 50, 98, 0), 1);
        tableIs(x, 1, 1, 48, 2, 25, 3, 48, 4, 50, 6, 25);
        Lay.table(x, 0, 0, 1, 1, 63);
        // with 1 in 2: 65, 64 * 63 + 126 and 63 * 63, past 1,000 without a divisor
        DUE.refuses(x, "again(2, 1, 2, 0)", x.again(2, 1, 2, 0), 7);
    }

    // "(DAYS with none are no ROWS.)"
    private static void daysWithNoneAreNoRows() {
        EndTeller x = Lay.fixed(0, 10);
        DUE.gives(x, "again of 0 days", x.again(0, 1, 2, 0), 2);
        tableIs(x, 2, 0, 1);
        DUE.gives(x, "again of 10 days", x.again(1, 1, 2, 0), 3);
        tableIs(x, 3, 10, 1, 20, 1);
        DUE.gives(x, "either of 0 and 10 days", x.either(0, 1, 1, 1, 0), 4);
        tableIs(x, 4, 0, 1, 10, 1);
    }

    // ---- Promise 11: "A PART NEEDS another one (on true), or not (2; 5: not a lesser number)."

    private static void needOfLesserNumbers() {
        EndTeller x = Lay.fixed(1, 1, 1);
        for (int part = 0; part < 3; part++) {
            for (int other = 0; other < 3; other++) {
                if (other < part) {
                    DUE.holds(x, "need of a lesser one", x.need(part, other, true));
                } else {
                    DUE.refuses(x, "need of no lesser one", x.need(part, other, true), 5);
                    DUE.refuses(x, "no need of no lesser one", x.need(part, other, false), 5);
                }
            }
            DUE.gives(x, "told(" + part + ", 3)", x.told(part, 3), part);
        }
        Lay.parts(x, 7);
        for (int other = 0; other < 9; other++) {
            DUE.holds(x, "need(9, " + other + ", true)", x.need(9, other, true));
        }
        DUE.gives(x, "told(9, 3)", x.told(9, 3), 9);
    }

    private static void needOfNoPart() {
        EndTeller x = Lay.fixed(1, 1);
        for (int wrong : new int[] {-1, 2, 10, 31, 32, 33, LEAST, MOST}) {
            DUE.refuses(x, "need(" + wrong + ", 0, true)", x.need(wrong, 0, true), 2);
            DUE.refuses(x, "need(1, " + wrong + ", true)", x.need(1, wrong, true), 2);
            DUE.refuses(x, "2 ahead of 5", x.need(0, wrong, false), 2);
        }
        DUE.gives(x, "told(1, 3)", x.told(1, 3), 0);
    }

    private static void needTwiceAndNotAtAll() {
        EndTeller x = Lay.fixed(2, 3);
        DUE.holds(x, "no need that was none", x.need(1, 0, false));
        endIs(x, "without needs", 3);
        x.need(1, 0, true);
        DUE.holds(x, "need twice", x.need(1, 0, true));
        DUE.gives(x, "told(1, 3)", x.told(1, 3), 1);
        endIs(x, "with a need", 5);
        DUE.holds(x, "no need any more", x.need(1, 0, false));
        DUE.gives(x, "told(1, 3)", x.told(1, 3), 0);
        endIs(x, "without needs again", 3);
    }

    // ---- Promise 12: "A CAUSE more: its number (5; 7)."; "each comes with a share n / d (1 to d - 1; d at most 12)"

    private static void causeOfShares() {
        EndTeller x = new EndTeller();
        int[][] wrong = {{0, 2}, {2, 2}, {-1, 2}, {3, 2}, {0, 1}, {1, 1}, {0, 0}, {1, 0}, {1, 13}, {12, 13}, {0, 12},
            {12, 12}, {1, -1}, {-2, -1}, {1, LEAST}, {LEAST, MOST}, {1, MOST}, {MOST, MOST}, {LEAST, LEAST}};
        for (int[] w : wrong) {
            DUE.refuses(x, "cause(" + w[0] + ", " + w[1] + ")", x.cause(w[0], w[1]), 5);
        }
        DUE.gives(x, "no cause was made", x.ways(), 1);
        DUE.gives(x, "cause(1, 2)", x.cause(1, 2), 0);
        DUE.gives(x, "cause(1, 12)", x.cause(1, 12), 1);
        DUE.gives(x, "cause(11, 12)", x.cause(11, 12), 2);
        x.fixed(0, 0);
        x.late(0, 1, 12);
        DUE.tells(x, "late by 1 in 12", x.mean(), 1, 1);
        x.late(0, 1, 0);
        x.late(0, 2, 12);
        DUE.tells(x, "late by 11 in 12", x.mean(), 11, 1);
    }

    // "CAUSES, at most 4"; "7 one too many: .. a CAUSE"
    private static void atMostFourCauses() {
        EndTeller x = new EndTeller();
        for (int c = 0; c < 4; c++) {
            DUE.gives(x, "cause " + c, x.cause(1, 2), c);
        }
        DUE.gives(x, "ways() of four causes", x.ways(), 16);
        DUE.refuses(x, "5 ahead of 7", x.cause(2, 2), 5);
        DUE.refuses(x, "a fifth cause", x.cause(1, 2), 7);
        DUE.gives(x, "ways() of four causes still", x.ways(), 16);
        x.fixed(1, 0);
        DUE.refuses(x, "late by a fifth", x.late(0, 4, 1), 2);
        x.clear();
        DUE.gives(x, "the first again", x.cause(1, 2), 0);
    }

    // ---- Promise 13: "LATE of a PART by a CAUSE (2; 5)."; "DAYS more (0 to 99; 0 at first) if it comes"

    private static void lateOfDays() {
        EndTeller x = Lay.fixed(0);
        x.cause(1, 2);
        DUE.holds(x, "late(0, 0, 99)", x.late(0, 0, 99));
        DUE.gives(x, "the latest end", x.promise(0, 1), 99);
        for (int wrong : new int[] {-1, 100, LEAST, MOST}) {
            DUE.refuses(x, "late(0, 0, " + wrong + ")", x.late(0, 0, wrong), 5);
        }
        DUE.gives(x, "the latest end still", x.promise(0, 1), 99);
        DUE.holds(x, "late(0, 0, 0)", x.late(0, 0, 0));
        DUE.gives(x, "late no more", x.promise(0, 1), 0);
    }

    private static void lateOfNoPartOrCause() {
        EndTeller x = Lay.fixed(0, 0);
        x.cause(1, 2);
        x.cause(1, 2);
        for (int wrong : new int[] {-1, 2, 10, LEAST, MOST}) {
            DUE.refuses(x, "late(" + wrong + ", 0, 1)", x.late(wrong, 0, 1), 2);
            DUE.refuses(x, "late(0, " + wrong + ", 1)", x.late(0, wrong, 1), 2);
            DUE.refuses(x, "2 ahead of 5", x.late(0, wrong, 100), 2);
        }
        DUE.holds(x, "late(1, 1, 1)", x.late(1, 1, 1));
    }

    private static void lateIsNoughtAtFirst() {
        EndTeller x = Lay.fixed(3);
        x.cause(1, 2);
        x.fixed(4, 0);
        DUE.gives(x, "late by none at first", x.promise(0, 1), 4);
        x.late(0, 0, 90);
        x.clear();
        x.fixed(3, 0);
        x.cause(1, 2);
        DUE.gives(x, "late by none after clear()", x.promise(0, 1), 3);
    }

    // ---- Promise 14: "HANDS of the house (5)."; "HANDS of the house: 1 to 30; 30 at first."

    private static void handsOfTheHouse() {
        EndTeller x = new EndTeller();
        x.fixed(2, 1);
        x.fixed(2, 1);
        DUE.holds(x, "hands(1)", x.hands(1));
        endIs(x, "with 1", 4);
        DUE.holds(x, "hands(2)", x.hands(2));
        endIs(x, "with 2", 2);
        x.hands(1);
        for (int wrong : new int[] {0, -1, 31, LEAST, MOST}) {
            DUE.refuses(x, "hands(" + wrong + ")", x.hands(wrong), 5);
            endIs(x, "with 1 still", 4);
        }
        DUE.holds(x, "hands(30)", x.hands(30));
        endIs(x, "with 30", 2);
    }

    private static EndTeller ofThirtyHands() {
        EndTeller x = new EndTeller();
        x.fixed(1, 9);
        x.fixed(1, 9);
        x.fixed(1, 9);
        x.fixed(1, 3);
        return x;
    }

    private static void handsAreThirtyAtFirst() {
        EndTeller x = ofThirtyHands();
        endIs(x, "30 are enough for 30", 1);
        x.fixed(1, 1);
        endIs(x, "30 are not enough for 31", 2);
        EndTeller y = ofThirtyHands();
        y.hands(29);
        endIs(y, "29 are not enough for 30", 2);
        y.hands(30);
        endIs(y, "hands(30) is as at first", 1);
    }

    // ---- Promise 15: "All PARTS and CAUSES are gone, and what CAME; HANDS are 30."

    private static EndTeller full() {
        EndTeller x = Lay.fixed(1, 2, 3, 4, 5, 6, 7, 8, 9, 10);
        for (int c = 0; c < 4; c++) {
            x.cause(1, 2);
            x.late(c, c, 50);
        }
        x.need(9, 8, true);
        x.end(9, 30);
        x.today(9);
        x.hands(1);
        return x;
    }

    private static void clearOfAll() {
        EndTeller x = full();
        DUE.holds(x, "clear()", x.clear());
        DUE.gives(x, "ways()", x.ways(), 1);
        DUE.refuses(x, "told(0, 0)", x.told(0, 0), 2);
        endIs(x, "of none", 0);
        for (int p = 0; p < 10; p++) {
            DUE.gives(x, "ten parts again", x.fixed(p, 0), p);
            tableIs(x, p, p, 1);
            DUE.gives(x, "told(" + p + ", 3)", x.told(p, 3), 0);
            DUE.gives(x, "told(" + p + ", 4)", x.told(p, 4), -1);
        }
        endIs(x, "with 30 hands, no needs and no day", 9);
        for (int c = 0; c < 4; c++) {
            DUE.gives(x, "four causes again", x.cause(1, 2), c);
        }
        endIs(x, "late by none", 9);
    }

    private static void clearGivesThirtyHands() {
        EndTeller y = ofThirtyHands();
        y.hands(3);
        y.today(50);
        y.clear();
        y.fixed(1, 9);
        y.fixed(1, 9);
        y.fixed(1, 9);
        y.fixed(1, 3);
        endIs(y, "30 hands again, and no day", 1);
        y.fixed(1, 1);
        endIs(y, "no more than 30", 2);
    }

    private static void clearOfNone() {
        EndTeller x = new EndTeller();
        DUE.holds(x, "clear() of a new one", x.clear());
        DUE.holds(x, "clear() twice", x.clear());
        DUE.gives(x, "fixed(1, 0)", x.fixed(1, 0), 0);
    }

    private static void clearLeavesTheRest() {
        EndTeller x = full();
        Lay.tray(x, 2, 1, 8, 9);
        x.telling(1, 3, true);
        x.said(3);
        DUE.holds(x, "clear()", x.clear());
        DUE.fraction(x, "clear() tells none", 1, 3);
        DUE.gives(x, "read(2, 1)", x.read(2, 1), 9);
        DUE.gives(x, "judged(3, 1)", x.judged(3, 1), 1);
    }

    // ---- Promise 16: "Of a PART, what 0: ROWS, 1: all its WEIGHTS, 2: HANDS, 3: PARTS that it NEEDS, 4: the day on
    // which it was told to have ended (NONE) (2; 5)."

    private static void toldOfWhat() {
        EndTeller x = Lay.fixed(1, 1);
        Lay.table(x, 7, 1, 1000, 2, 1000, 3, 1000, 4, 1000, 5, 1000, 6, 1000, 7, 1000, 8, 999);
        x.need(2, 0, true);
        x.need(2, 1, true);
        x.end(2, 9999);
        int[] due = {8, 7999, 7, 2, 9999};
        for (int what = 0; what < 5; what++) {
            DUE.gives(x, "told(2, " + what + ")", x.told(2, what), due[what]);
        }
        for (int wrong : new int[] {-1, 5, LEAST, MOST}) {
            DUE.refuses(x, "told(2, " + wrong + ")", x.told(2, wrong), 5);
        }
    }

    private static void toldOfNoPart() {
        EndTeller x = Lay.fixed(1);
        for (int wrong : new int[] {-1, 1, 10, LEAST, MOST}) {
            DUE.refuses(x, "told(" + wrong + ", 0)", x.told(wrong, 0), 2);
            DUE.refuses(x, "2 ahead of 5", x.told(wrong, 5), 2);
        }
    }

    private static void toldOfNoDay() {
        EndTeller x = Lay.fixed(1);
        DUE.gives(x, "told(0, 4) at first: NONE, and STATUS 0", x.told(0, 4), -1);
        x.end(0, 0);
        DUE.gives(x, "told(0, 4) of day 0", x.told(0, 4), 0);
        x.end(0, EndTeller.NONE);
        DUE.gives(x, "told(0, 4) not any more", x.told(0, 4), -1);
    }

    // ---- Promise 17: "Of ROW k of a PART, what 0: DAYS, 1: WEIGHT (2; 5)."

    private static void rowOfRows() {
        EndTeller x = Lay.fixed(1);
        Lay.table(x, 0, 1, 1, 2, 2, 3, 3, 4, 4, 5, 5, 6, 6, 7, 7, 99, 8);
        rowIs(x, 0, 0, 1, 1);
        DUE.refuses(x, "row(0, 1, 0)", x.row(0, 1, 0), 2);
        rowIs(x, 1, 0, 1, 1);
        rowIs(x, 1, 7, 99, 8);
        for (int wrong : new int[] {-1, 8, LEAST, MOST}) {
            DUE.refuses(x, "row(1, " + wrong + ", 0)", x.row(1, wrong, 0), 2);
            DUE.refuses(x, "2 of a row ahead of 5", x.row(1, wrong, 2), 2);
        }
        for (int wrong : new int[] {-1, 2, 10, LEAST, MOST}) {
            DUE.refuses(x, "row(" + wrong + ", 0, 0)", x.row(wrong, 0, 0), 2);
            DUE.refuses(x, "2 of a part ahead of 5", x.row(wrong, 0, 2), 2);
        }
        x.clear();
        x.fixed(4, 0);
        DUE.refuses(x, "a row of an earlier part", x.row(0, 1, 0), 2);
    }

    private static void rowOfWhat() {
        EndTeller x = new EndTeller();
        Lay.table(x, 0, 6, 7, 8, 9);
        rowIs(x, 0, 1, 8, 9);
        for (int wrong : new int[] {-1, 2, LEAST, MOST}) {
            DUE.refuses(x, "row(0, 0, " + wrong + ")", x.row(0, 0, wrong), 5);
        }
    }
}
