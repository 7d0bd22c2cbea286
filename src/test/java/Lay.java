/** Works that several tests lay out. */
final class Lay {
    private Lay() {
    }

    /** A TRAY of a sort that holds just these numbers. */
    static void tray(EndTeller x, int tray, int sort, long... numbers) {
        x.tray(tray, sort, numbers.length);
        for (int k = 0; k < numbers.length; k++) {
            x.write(tray, k, numbers[k]);
        }
    }

    /** Writes DAYS and WEIGHT in turn to tray 3 and makes a PART of them. */
    static int table(EndTeller x, int hands, int... numbers) {
        x.tray(3, 2, numbers.length);
        for (int k = 0; k < numbers.length; k++) {
            x.write(3, k, numbers[k]);
        }
        return x.part(3, numbers.length / 2, hands);
    }

    /** A new object with a PART of so many DAYS and no HANDS for each number. */
    static EndTeller fixed(int... days) {
        EndTeller x = new EndTeller();
        for (int d : days) {
            x.fixed(d, 0);
        }
        return x;
    }

    /** So many PARTS more, each of one day and no HANDS. */
    static void parts(EndTeller x, int many) {
        for (int k = 0; k < many; k++) {
            x.fixed(1, 0);
        }
    }

    /** A work whose weights are 20,000 together, in four WAYS: END on day 1 with weight 1, else on day 2. */
    static EndTeller almostGreat() {
        EndTeller x = new EndTeller();
        table(x, 0, 1, 1, 2, 999);
        table(x, 0, 1, 1, 2, 19);
        return x;
    }

    /** A work whose weights are 3 * 6,667 = 20,001 together. */
    static EndTeller great() {
        EndTeller x = new EndTeller();
        table(x, 0, 1, 1000, 2, 1000, 3, 1000, 4, 1000, 5, 1000, 6, 1000, 7, 667);
        x.cause(1, 3);
        return x;
    }

    /** A PART of 2 days that was told to have ended on day 3: no WAYS are left. */
    static EndTeller withoutWays() {
        EndTeller x = fixed(2, 1);
        x.end(0, 3);
        return x;
    }

    /** The second PART has 2 HANDS, the house 1. */
    static EndTeller stuck() {
        EndTeller x = fixed(2);
        x.fixed(1, 2);
        x.hands(1);
        return x;
    }

    /**
     * A PART of 0, 1, 2 .. days by the weights a, behind it one likewise by b, behind that one likewise by c that
     * was told to have ended on a day; and a long PART behind the second. The rows of the first are bound to those
     * of the others, so that their rests have lower numbers of their own.
     */
    static EndTeller chain(int[] a, int[] b, int[] c, int day) {
        EndTeller x = new EndTeller();
        table(x, 0, fromNought(a));
        table(x, 0, fromNought(b));
        table(x, 0, fromNought(c));
        x.fixed(90, 0);
        x.need(1, 0, true);
        x.need(2, 1, true);
        x.need(3, 1, true);
        x.end(2, day);
        return x;
    }

    private static int[] fromNought(int[] weights) {
        int[] numbers = new int[2 * weights.length];
        for (int k = 0; k < weights.length; k++) {
            numbers[2 * k] = k;
            numbers[2 * k + 1] = weights[k];
        }
        return numbers;
    }
}
