/** For each promise of the document: ordinary inputs, the edges that it names, and wrong inputs. */
public final class PromiseTests {
    private static final Due DUE = new Due("PromiseTests");
    private static final int LEAST = Integer.MIN_VALUE;
    private static final int MOST = Integer.MAX_VALUE;

    private PromiseTests() {
    }

    public static void main(String[] args) {
        newObject();
        status();
        tray();
        write();
        read();
        pour();
        pourRefused();
        part();
        partRefused();
        fixed();
        either();
        eitherTooMuch();
        again();
        againTooMuch();
        need();
        cause();
        late();
        hands();
        clear();
        told();
        row();
        upperAndLower();
        ways();
        great();
        ends();
        done();
        promise();
        mean();
        spread();
        sure();
        sureGreat();
        surest();
        moves();
        end();
        today();
        telling();
        judged();
        said();
        saidGreat();
        stepping();
        latestEnd();
        refusedChangesNothing();
        wellAfterRefusal();
        DUE.close();
    }

    private static int table(EndTeller x, int hands, int... numbers) {
        return Lay.table(x, hands, numbers);
    }

    private static void rowIs(EndTeller x, int part, int k, int days, int weight) {
        DUE.gives(x, "row(" + part + ", " + k + ", 0)", x.row(part, k, 0), days);
        DUE.gives(x, "row(" + part + ", " + k + ", 1)", x.row(part, k, 1), weight);
    }

    private static void meanIs(EndTeller x, String when, long upper, long lower) {
        DUE.tells(x, when + ": mean()", x.mean(), upper, lower);
    }

    private static void newObject() {
        EndTeller x = new EndTeller();
        DUE.is("new: status()", x.status(), 0);
        DUE.fraction(x, "new", 0, 1);
        for (int t = 0; t < 4; t++) {
            DUE.refuses(x, "new: read(" + t + ", 0)", x.read(t, 0), 3);
        }
        DUE.refuses(x, "new: told(0, 0)", x.told(0, 0), 2);
        DUE.gives(x, "new: ways()", x.ways(), 1);
        for (int s = 0; s < 10; s++) {
            DUE.gives(x, "new: judged", x.judged(s, 0), 0);
            DUE.gives(x, "new: judged", x.judged(s, 1), 0);
            DUE.refuses(x, "new: said", x.said(s), 5);
        }
        DUE.gives(x, "fixed(1, 0)", x.fixed(1, 0), 0);
        DUE.refuses(x, "new: late(0, 0, 1)", x.late(0, 0, 1), 2);
        DUE.gives(x, "new: told(0, 4)", x.told(0, 4), -1);
        DUE.is("NONE", EndTeller.NONE, -1);
    }

    private static void status() {
        EndTeller x = new EndTeller();
        x.read(9, 0);
        DUE.is("status() after read(9, 0)", x.status(), 1);
        DUE.is("status() once more", x.status(), 1);
        x.upper();
        x.lower();
        DUE.is("status() after upper(), lower()", x.status(), 1);
        x.tray(0, 0, 1);
        DUE.is("status() after tray(0, 0, 1)", x.status(), 0);
        x.hands(0);
        DUE.is("status() after hands(0)", x.status(), 5);
        x.ways();
        DUE.is("status() after ways()", x.status(), 0);
    }

    private static void tray() {
        EndTeller x = new EndTeller();
        for (int sort = 0; sort < 4; sort++) {
            DUE.holds(x, "tray", x.tray(sort, sort, 40));
            DUE.gives(x, "read of 39", x.read(sort, 39), 0);
            DUE.refuses(x, "read of 40", x.read(sort, 40), 4);
        }
        x.write(1, 7, 5);
        DUE.holds(x, "tray(1, 3, 8)", x.tray(1, 3, 8));
        DUE.gives(x, "read(1, 7) of a new row", x.read(1, 7), 0);
        DUE.refuses(x, "read(1, 8)", x.read(1, 8), 4);
        x.write(1, 7, 1L << 40);
        DUE.gives(x, "read(1, 7) of 64 bits", x.read(1, 7), 1L << 40);
        DUE.holds(x, "tray(2, 0, 0)", x.tray(2, 0, 0));
        DUE.refuses(x, "read(2, 0) of none", x.read(2, 0), 4);
        int[] wrong = {-1, 4, LEAST, MOST};
        for (int w : wrong) {
            DUE.refuses(x, "tray of no such tray", x.tray(w, 0, 1), 1);
            DUE.refuses(x, "tray of no such sort", x.tray(0, w, 1), 1);
            DUE.refuses(x, "tray 1 ahead of 5", x.tray(w, 0, 41), 1);
            DUE.refuses(x, "tray 1 ahead of 6", x.tray(0, w, -1), 1);
        }
        DUE.refuses(x, "tray(1, 0, 41)", x.tray(1, 0, 41), 5);
        DUE.refuses(x, "tray of the most", x.tray(1, 0, MOST), 5);
        DUE.refuses(x, "tray(1, 0, -1)", x.tray(1, 0, -1), 6);
        DUE.refuses(x, "tray of the least", x.tray(1, 0, LEAST), 6);
        DUE.gives(x, "read(1, 7) after refusals", x.read(1, 7), 1L << 40);
    }

    private static void write() {
        EndTeller x = new EndTeller();
        long[][] cut = {
            {0, 127, 127}, {0, 128, -128}, {0, 255, -1}, {0, 256, 0}, {0, -129, 127}, {0, Long.MIN_VALUE, 0},
            {1, 32767, 32767}, {1, 32768, -32768}, {1, 65535, -1}, {1, -32769, 32767}, {1, 65536, 0},
            {2, 2147483647L, 2147483647L}, {2, 2147483648L, -2147483648L}, {2, 4294967295L, -1},
            {2, -2147483649L, 2147483647L}, {2, 4294967296L, 0},
            {3, Long.MAX_VALUE, Long.MAX_VALUE}, {3, Long.MIN_VALUE, Long.MIN_VALUE}, {3, 4294967296L, 4294967296L},
        };
        for (long[] c : cut) {
            x.tray(0, (int) c[0], 3);
            DUE.holds(x, "write", x.write(0, 2, c[1]));
            DUE.gives(x, "read of sort " + c[0] + " and " + c[1], x.read(0, 2), c[2]);
            DUE.gives(x, "read of the place beside it", x.read(0, 1), 0);
        }
        DUE.refuses(x, "write(4, 0, 0)", x.write(4, 0, 0), 1);
        DUE.refuses(x, "write(-1, 0, 0)", x.write(-1, 0, 0), 1);
        DUE.refuses(x, "write(1, 0, 0)", x.write(1, 0, 0), 3);
        DUE.refuses(x, "write(1, -1, 0)", x.write(1, -1, 0), 3);
        DUE.refuses(x, "write(0, 3, 0)", x.write(0, 3, 0), 4);
        DUE.refuses(x, "write(0, -1, 0)", x.write(0, -1, 0), 4);
        DUE.refuses(x, "write of the most", x.write(0, MOST, 0), 4);
        DUE.refuses(x, "write of the least", x.write(0, LEAST, 0), 4);
    }

    private static void read() {
        EndTeller x = new EndTeller();
        x.tray(2, 1, 2);
        x.write(2, 0, -1);
        x.write(2, 1, 9);
        DUE.gives(x, "read(2, 0)", x.read(2, 0), -1);
        DUE.gives(x, "read(2, 1)", x.read(2, 1), 9);
        DUE.refuses(x, "read(2, 2)", x.read(2, 2), 4);
        DUE.refuses(x, "read(2, -1)", x.read(2, -1), 4);
        DUE.refuses(x, "read(3, 0)", x.read(3, 0), 3);
        DUE.refuses(x, "read(4, 0)", x.read(4, 0), 1);
        DUE.refuses(x, "read(-1, 0)", x.read(-1, 0), 1);
        DUE.refuses(x, "read of the most", x.read(MOST, MOST), 1);
        DUE.refuses(x, "read of the least", x.read(2, LEAST), 4);
    }

    private static void trayIs(EndTeller x, int tray, long... want) {
        for (int k = 0; k < want.length; k++) {
            DUE.gives(x, "read(" + tray + ", " + k + ")", x.read(tray, k), want[k]);
        }
    }

    private static void pour() {
        EndTeller x = new EndTeller();
        x.tray(0, 2, 5);
        for (int k = 0; k < 5; k++) {
            x.write(0, k, k + 1);
        }
        DUE.holds(x, "pour(0, 0, 0, 1, 4)", x.pour(0, 0, 0, 1, 4));
        trayIs(x, 0, 1, 1, 2, 3, 4);
        DUE.holds(x, "pour(0, 2, 0, 0, 3)", x.pour(0, 2, 0, 0, 3));
        trayIs(x, 0, 2, 3, 4, 3, 4);
        x.tray(1, 2, 3);
        DUE.holds(x, "pour(0, 1, 1, 1, 2)", x.pour(0, 1, 1, 1, 2));
        trayIs(x, 1, 0, 3, 4);
        trayIs(x, 0, 2, 3, 4, 3, 4);
        DUE.holds(x, "pour(0, 0, 0, 0, 5)", x.pour(0, 0, 0, 0, 5));
        DUE.holds(x, "pour(0, 5, 1, 3, 0)", x.pour(0, 5, 1, 3, 0));
        DUE.holds(x, "pour(0, 0, 1, 0, 0)", x.pour(0, 0, 1, 0, 0));
        trayIs(x, 0, 2, 3, 4, 3, 4);
        trayIs(x, 1, 0, 3, 4);
        x.tray(2, 3, 2);
        x.tray(3, 3, 2);
        x.write(2, 0, Long.MIN_VALUE);
        DUE.holds(x, "pour(2, 0, 3, 1, 1)", x.pour(2, 0, 3, 1, 1));
        trayIs(x, 3, 0, Long.MIN_VALUE);
    }

    private static void pourRefused() {
        EndTeller x = new EndTeller();
        x.tray(0, 2, 5);
        x.tray(1, 2, 3);
        x.tray(2, 1, 5);
        x.write(0, 0, 7);
        DUE.refuses(x, "pour(4, ..)", x.pour(4, 0, 0, 0, 1), 1);
        DUE.refuses(x, "pour(.., -1, ..)", x.pour(0, 0, -1, 0, 1), 1);
        DUE.refuses(x, "pour 1 ahead of 3", x.pour(3, 0, 4, 0, 1), 1);
        DUE.refuses(x, "pour from a missing one", x.pour(3, 0, 0, 0, 1), 3);
        DUE.refuses(x, "pour to a missing one", x.pour(0, 0, 3, 0, 1), 3);
        DUE.refuses(x, "pour 3 ahead of 6", x.pour(0, 0, 3, 0, -1), 3);
        DUE.refuses(x, "pour of unlike sorts", x.pour(0, 0, 2, 0, 1), 11);
        DUE.refuses(x, "pour 11 ahead of 6", x.pour(0, 0, 2, 0, -1), 11);
        DUE.refuses(x, "pour 11 ahead of 4", x.pour(0, 9, 2, 0, 1), 11);
        DUE.refuses(x, "pour of -1", x.pour(0, 0, 1, 0, -1), 6);
        DUE.refuses(x, "pour 6 ahead of 4", x.pour(0, 9, 1, 9, LEAST), 6);
        DUE.refuses(x, "pour(0, -1, ..)", x.pour(0, -1, 1, 0, 1), 4);
        DUE.refuses(x, "pour(.., -1, 1)", x.pour(0, 0, 1, -1, 1), 4);
        DUE.refuses(x, "pour(0, 5, 1, 0, 1)", x.pour(0, 5, 1, 0, 1), 4);
        DUE.refuses(x, "pour(0, 4, 1, 0, 2)", x.pour(0, 4, 1, 0, 2), 4);
        DUE.refuses(x, "pour(0, 0, 1, 0, 4)", x.pour(0, 0, 1, 0, 4), 4);
        DUE.refuses(x, "pour(1, 0, 0, 0, 4)", x.pour(1, 0, 0, 0, 4), 4);
        DUE.refuses(x, "pour(0, 0, 1, 3, 1)", x.pour(0, 0, 1, 3, 1), 4);
        DUE.refuses(x, "pour of the most places", x.pour(0, MOST, 1, MOST, MOST), 4);
        DUE.refuses(x, "pour of the most", x.pour(0, 1, 1, 1, MOST), 4);
        trayIs(x, 0, 7, 0, 0, 0, 0);
        trayIs(x, 1, 0, 0, 0);
    }

    private static void part() {
        EndTeller x = new EndTeller();
        DUE.gives(x, "a part", table(x, 0, 0, 6, 1, 4, 99, 10), 0);
        DUE.gives(x, "told(0, 0)", x.told(0, 0), 3);
        DUE.gives(x, "told(0, 1)", x.told(0, 1), 10);
        rowIs(x, 0, 0, 0, 3);
        rowIs(x, 0, 1, 1, 2);
        rowIs(x, 0, 2, 99, 5);
        DUE.gives(x, "the most of all", table(x, 9, 1, 999, 2, 1000, 3, 1, 4, 1, 5, 1, 6, 1, 7, 1, 8, 1), 1);
        DUE.gives(x, "told(1, 0)", x.told(1, 0), 8);
        DUE.gives(x, "told(1, 1)", x.told(1, 1), 2005);
        DUE.gives(x, "told(1, 2)", x.told(1, 2), 9);
        rowIs(x, 1, 0, 1, 999);
        rowIs(x, 1, 1, 2, 1000);
        rowIs(x, 1, 7, 8, 1);
        DUE.gives(x, "one row of more", x.part(3, 1, 0), 2);
        rowIs(x, 2, 0, 1, 1);
        x.write(3, 0, 50);
        rowIs(x, 2, 0, 1, 1);
    }

    private static void partRefused() {
        EndTeller x = new EndTeller();
        x.tray(0, 3, 16);
        DUE.refuses(x, "part(-1, ..)", x.part(-1, 0, 0), 1);
        DUE.refuses(x, "part(4, ..)", x.part(4, 1, 0), 1);
        DUE.refuses(x, "part(1, 0, 0)", x.part(1, 0, 0), 3);
        int[] wrongRows = {0, 9, -1, LEAST, MOST};
        for (int rows : wrongRows) {
            DUE.refuses(x, "part of rows " + rows, x.part(0, rows, 0), 5);
        }
        x.tray(1, 2, 1);
        DUE.refuses(x, "part 5 ahead of 4", x.part(1, 1, 10), 5);
        DUE.refuses(x, "part(1, 1, -1)", x.part(1, 1, -1), 5);
        DUE.refuses(x, "part(1, 1, 9)", x.part(1, 1, 9), 4);
        x.tray(1, 2, 15);
        DUE.refuses(x, "part(1, 8, 0)", x.part(1, 8, 0), 4);
        long[][] wrong = {
            {-1, 1, 5, 1}, {0, 0, 5, 1}, {0, -1, 5, 1}, {0, 1001, 5, 1}, {0, 1, 100, 1}, {0, 1, 0, 1},
            {5, 1, 4, 1}, {0, 1, 1, 1001}, {0, 1, 1, 0}, {1L << 32, 1, 5, 1}, {0, 1L << 32, 5, 1},
            {0, (1L << 32) + 1, 5, 1}, {0, 1, (1L << 32) + 5, 1}, {0, 2000, 1, 2000},
        };
        for (long[] numbers : wrong) {
            for (int k = 0; k < 4; k++) {
                x.write(0, k, numbers[k]);
            }
            DUE.refuses(x, "part of a wrong number", x.part(0, 2, 0), 5);
        }
        for (int k = 0; k < 10; k++) {
            DUE.gives(x, "fixed(1, 0)", x.fixed(1, 0), k);
        }
        DUE.refuses(x, "part 5 ahead of 7", x.part(0, 2, 0), 5);
        x.write(0, 1, 1);
        x.write(0, 3, 1);
        x.write(0, 2, 5);
        DUE.refuses(x, "an eleventh part", x.part(0, 2, 0), 7);
        DUE.refuses(x, "told(10, 0)", x.told(10, 0), 2);
    }

    private static void fixed() {
        EndTeller x = new EndTeller();
        DUE.gives(x, "fixed(0, 0)", x.fixed(0, 0), 0);
        DUE.gives(x, "fixed(99, 9)", x.fixed(99, 9), 1);
        rowIs(x, 0, 0, 0, 1);
        rowIs(x, 1, 0, 99, 1);
        DUE.gives(x, "told(1, 0)", x.told(1, 0), 1);
        DUE.gives(x, "told(1, 1)", x.told(1, 1), 1);
        DUE.gives(x, "told(1, 2)", x.told(1, 2), 9);
        DUE.gives(x, "told(0, 2)", x.told(0, 2), 0);
        int[][] wrong = {{-1, 0}, {100, 0}, {0, -1}, {0, 10}, {LEAST, 0}, {MOST, 0}, {0, LEAST}, {0, MOST}};
        for (int[] w : wrong) {
            DUE.refuses(x, "fixed(" + w[0] + ", " + w[1] + ")", x.fixed(w[0], w[1]), 5);
        }
        for (int k = 2; k < 10; k++) {
            DUE.gives(x, "fixed(k, 1)", x.fixed(k, 1), k);
        }
        DUE.refuses(x, "fixed 5 ahead of 7", x.fixed(100, 1), 5);
        DUE.refuses(x, "an eleventh fixed", x.fixed(1, 1), 7);
    }

    private static void either() {
        EndTeller x = new EndTeller();
        table(x, 1, 1, 1, 3, 2);
        table(x, 2, 0, 1, 3, 1);
        x.need(1, 0, true);
        // 5/8 of {1: 1/3, 3: 2/3} and 3/8 of {0: 1/2, 3: 1/2}: 0: 9/48, 1: 10/48, 3: 29/48
        DUE.gives(x, "either(0, 1, 5, 3, 4)", x.either(0, 1, 5, 3, 4), 2);
        DUE.gives(x, "told(2, 0)", x.told(2, 0), 3);
        DUE.gives(x, "told(2, 1)", x.told(2, 1), 48);
        DUE.gives(x, "told(2, 2)", x.told(2, 2), 4);
        DUE.gives(x, "told(2, 3)", x.told(2, 3), 0);
        rowIs(x, 2, 0, 0, 9);
        rowIs(x, 2, 1, 1, 10);
        rowIs(x, 2, 2, 3, 29);
        DUE.gives(x, "either of one and the same", x.either(0, 0, 99, 1, 0), 3);
        rowIs(x, 3, 0, 1, 1);
        rowIs(x, 3, 1, 3, 2);
        DUE.gives(x, "told(3, 1)", x.told(3, 1), 3);
        DUE.gives(x, "either(0, 0, 1, 99, 0)", x.either(0, 0, 1, 99, 0), 4);
        rowIs(x, 4, 1, 3, 2);
        DUE.refuses(x, "either(5, 0, ..)", x.either(5, 0, 1, 1, 0), 2);
        DUE.refuses(x, "either(0, 5, ..)", x.either(0, 5, 1, 1, 0), 2);
        DUE.refuses(x, "either(-1, 0, ..)", x.either(-1, 0, 1, 1, 0), 2);
        DUE.refuses(x, "either 2 ahead of 5", x.either(0, LEAST, 0, 0, -1), 2);
        int[] wrong = {0, 100, -1, LEAST, MOST};
        for (int w : wrong) {
            DUE.refuses(x, "either of v " + w, x.either(0, 1, w, 1, 0), 5);
            DUE.refuses(x, "either of w " + w, x.either(0, 1, 1, w, 0), 5);
        }
        DUE.refuses(x, "either of hands 10", x.either(0, 1, 1, 1, 10), 5);
        DUE.refuses(x, "either of hands -1", x.either(0, 1, 1, 1, -1), 5);
    }

    private static void eitherTooMuch() {
        EndTeller x = new EndTeller();
        table(x, 0, 1, 1, 2, 1, 3, 1, 4, 1);
        table(x, 0, 5, 1, 6, 1, 7, 1, 8, 1);
        table(x, 0, 4, 1, 5, 1, 6, 1, 7, 1, 8, 1);
        DUE.gives(x, "either of 8 rows", x.either(0, 1, 1, 1, 0), 3);
        DUE.gives(x, "told(3, 0)", x.told(3, 0), 8);
        DUE.gives(x, "either of 8 rows, one in both", x.either(0, 2, 1, 1, 0), 4);
        rowIs(x, 4, 3, 4, 9);
        DUE.gives(x, "told(4, 1)", x.told(4, 1), 40);
        x.fixed(99, 0);
        DUE.refuses(x, "either of 9 rows", x.either(3, 5, 1, 1, 0), 7);
        x.fixed(0, 0);
        DUE.refuses(x, "either of 9 rows with day 0", x.either(3, 6, 1, 1, 0), 7);
        x.clear();
        // 1 of 1 and w of a half: 2 and 1, 1; then with weights to 1,000 and past it
        table(x, 0, 1, 1, 2, 499);
        table(x, 0, 1, 1, 2, 500);
        x.fixed(3, 0);
        DUE.gives(x, "either with a weight of 500", x.either(0, 2, 1, 1, 0), 3);
        rowIs(x, 3, 2, 3, 500);
        DUE.gives(x, "either with a weight of 1,000", x.either(0, 2, 1, 2, 0), 4);
        rowIs(x, 4, 2, 3, 1000);
        DUE.refuses(x, "either with a weight of 1,002", x.either(1, 2, 1, 2, 0), 7);
        DUE.gives(x, "either with a weight of 501", x.either(1, 2, 1, 1, 0), 5);
        for (int k = 6; k < 10; k++) {
            x.fixed(1, 0);
        }
        DUE.refuses(x, "an eleventh by either", x.either(2, 2, 1, 1, 0), 7);
        DUE.refuses(x, "either 5 ahead of 7", x.either(2, 2, 0, 1, 0), 5);
    }

    private static void again() {
        EndTeller x = new EndTeller();
        table(x, 3, 0, 1, 2, 3);
        // (3 of 4) {0: 1/4, 2: 3/4} and (1 of 4) {0: 1/16, 2: 6/16, 4: 9/16}: 13, 42, 9 of 64
        DUE.gives(x, "again(0, 1, 4, 2)", x.again(0, 1, 4, 2), 1);
        DUE.gives(x, "told(1, 0)", x.told(1, 0), 3);
        DUE.gives(x, "told(1, 1)", x.told(1, 1), 64);
        DUE.gives(x, "told(1, 2)", x.told(1, 2), 2);
        rowIs(x, 1, 0, 0, 13);
        rowIs(x, 1, 1, 2, 42);
        rowIs(x, 1, 2, 4, 9);
        x.fixed(0, 0);
        DUE.gives(x, "again of 0 days", x.again(2, 98, 99, 0), 3);
        DUE.gives(x, "told(3, 0)", x.told(3, 0), 1);
        DUE.gives(x, "told(3, 1)", x.told(3, 1), 1);
        x.fixed(5, 0);
        DUE.gives(x, "again(4, 98, 99, 0)", x.again(4, 98, 99, 0), 5);
        rowIs(x, 5, 0, 5, 1);
        rowIs(x, 5, 1, 10, 98);
        DUE.gives(x, "again(4, 1, 2, 0)", x.again(4, 1, 2, 0), 6);
        DUE.gives(x, "told(6, 1)", x.told(6, 1), 2);
        int[][] wrong = {{0, 2}, {2, 2}, {3, 2}, {1, 1}, {1, 100}, {-1, 5}, {1, LEAST}, {MOST, LEAST}, {0, 0}, {1, 0}};
        for (int[] w : wrong) {
            DUE.refuses(x, "again(0, " + w[0] + ", " + w[1] + ", 0)", x.again(0, w[0], w[1], 0), 5);
        }
        DUE.refuses(x, "again of hands 10", x.again(0, 1, 2, 10), 5);
        DUE.refuses(x, "again of hands -1", x.again(0, 1, 2, -1), 5);
        DUE.refuses(x, "again(7, ..)", x.again(7, 0, 0, 0), 2);
        DUE.refuses(x, "again(-1, ..)", x.again(-1, 1, 2, 0), 2);
    }

    private static void againTooMuch() {
        EndTeller x = new EndTeller();
        x.fixed(49, 0);
        x.fixed(50, 0);
        DUE.gives(x, "again to 98 days", x.again(0, 1, 2, 0), 2);
        DUE.refuses(x, "again to 100 days", x.again(1, 1, 2, 0), 7);
        table(x, 0, 0, 1, 1, 1, 3, 1);
        DUE.gives(x, "again of 6 rows", x.again(3, 1, 2, 0), 4);
        DUE.gives(x, "told(4, 0)", x.told(4, 0), 6);
        table(x, 0, 1, 1, 2, 1, 4, 1);
        DUE.gives(x, "again of 7 rows", x.again(5, 1, 2, 0), 6);
        DUE.gives(x, "told(6, 0)", x.told(6, 0), 7);
        table(x, 0, 1, 1, 3, 1, 7, 1);
        DUE.refuses(x, "again of 9 rows", x.again(7, 1, 2, 0), 7);
        x.clear();
        // {0: 1, 1: 31} with 1 of 2: 0: 33, 1: 31 * 32 + 62 = 1054, 2: 961; the divisor is 1
        table(x, 0, 0, 1, 1, 31);
        DUE.refuses(x, "again with a weight of 1,054", x.again(0, 1, 2, 0), 7);
        table(x, 0, 0, 1, 1, 30);
        // 32, 990 and 900, made less by 2
        DUE.gives(x, "again with a weight of 495", x.again(1, 1, 2, 0), 2);
        rowIs(x, 2, 0, 0, 16);
        rowIs(x, 2, 1, 1, 495);
        rowIs(x, 2, 2, 2, 450);
        for (int k = 3; k < 10; k++) {
            x.fixed(1, 0);
        }
        DUE.refuses(x, "an eleventh by again", x.again(3, 1, 2, 0), 7);
        DUE.refuses(x, "again 5 ahead of 7", x.again(3, 2, 2, 0), 5);
    }

    private static void need() {
        EndTeller x = new EndTeller();
        x.fixed(2, 0);
        x.fixed(3, 0);
        x.fixed(4, 0);
        meanIs(x, "without needs", 4, 1);
        DUE.holds(x, "need(2, 0, true)", x.need(2, 0, true));
        meanIs(x, "with one", 6, 1);
        DUE.holds(x, "need(2, 1, true)", x.need(2, 1, true));
        DUE.holds(x, "need(2, 1, true) again", x.need(2, 1, true));
        meanIs(x, "with two", 7, 1);
        DUE.gives(x, "told(2, 3)", x.told(2, 3), 2);
        DUE.holds(x, "need(2, 1, false)", x.need(2, 1, false));
        DUE.holds(x, "need(2, 1, false) again", x.need(2, 1, false));
        DUE.gives(x, "told(2, 3)", x.told(2, 3), 1);
        meanIs(x, "with one again", 6, 1);
        DUE.refuses(x, "need(3, 0, ..)", x.need(3, 0, true), 2);
        DUE.refuses(x, "need(0, 3, ..)", x.need(0, 3, true), 2);
        DUE.refuses(x, "need(-1, 0, ..)", x.need(-1, 0, true), 2);
        DUE.refuses(x, "need(0, -1, ..)", x.need(0, -1, false), 2);
        DUE.refuses(x, "need(1, 1, ..)", x.need(1, 1, true), 5);
        DUE.refuses(x, "need(0, 2, ..)", x.need(0, 2, false), 5);
        DUE.gives(x, "told(2, 3) after refusals", x.told(2, 3), 1);
    }

    private static void cause() {
        EndTeller x = new EndTeller();
        x.fixed(1, 0);
        int[][] wrong = {{0, 2}, {2, 2}, {3, 2}, {1, 1}, {1, 13}, {-1, 2}, {1, LEAST}, {MOST, LEAST}, {1, 0}, {12, 13}};
        for (int[] w : wrong) {
            DUE.refuses(x, "cause(" + w[0] + ", " + w[1] + ")", x.cause(w[0], w[1]), 5);
        }
        DUE.gives(x, "cause(11, 12)", x.cause(11, 12), 0);
        x.late(0, 0, 12);
        meanIs(x, "a cause of 11 in 12", 12, 1);
        DUE.gives(x, "cause(1, 2)", x.cause(1, 2), 1);
        DUE.gives(x, "cause(2, 4)", x.cause(2, 4), 2);
        DUE.gives(x, "cause(1, 12)", x.cause(1, 12), 3);
        DUE.refuses(x, "cause 5 ahead of 7", x.cause(2, 2), 5);
        DUE.refuses(x, "a fifth cause", x.cause(1, 2), 7);
        DUE.gives(x, "ways()", x.ways(), 16);
        meanIs(x, "with causes that make none late", 12, 1);
        EndTeller y = new EndTeller();
        // A share is not made less: 2 in 4 has the weights 2 and 2
        table(y, 0, 1, 1, 2, 999);
        y.cause(2, 4);
        y.cause(1, 5);
        DUE.gives(y, "weights of 20,000", y.ways(), 8);
        y.cause(1, 2);
        DUE.refuses(y, "weights of 40,000", y.ways(), 9);
    }

    private static void late() {
        EndTeller x = new EndTeller();
        x.fixed(1, 0);
        x.fixed(2, 0);
        x.cause(1, 3);
        x.cause(1, 2);
        DUE.holds(x, "late(0, 0, 99)", x.late(0, 0, 99));
        meanIs(x, "late by one", 2 * 2 + 100, 3);
        DUE.holds(x, "late(0, 1, 10)", x.late(0, 1, 10));
        // ends: none 2, the first 100, the second 11, both 110, by 2, 1, 2, 1 of 6
        meanIs(x, "late by two", (4 + 100 + 22 + 110) / 2, 3);
        DUE.holds(x, "late(0, 0, 0)", x.late(0, 0, 0));
        meanIs(x, "late by the second", 13, 2);
        DUE.holds(x, "late(1, 1, 9)", x.late(1, 1, 9));
        meanIs(x, "two late together", 13, 2);
        DUE.refuses(x, "late(2, 0, 1)", x.late(2, 0, 1), 2);
        DUE.refuses(x, "late(-1, 0, 1)", x.late(-1, 0, 1), 2);
        DUE.refuses(x, "late(0, 2, 1)", x.late(0, 2, 1), 2);
        DUE.refuses(x, "late(0, -1, 1)", x.late(0, -1, 1), 2);
        DUE.refuses(x, "late 2 ahead of 5", x.late(0, 2, -1), 2);
        DUE.refuses(x, "late(0, 0, -1)", x.late(0, 0, -1), 5);
        DUE.refuses(x, "late(0, 0, 100)", x.late(0, 0, 100), 5);
        meanIs(x, "after refusals", 13, 2);
        x.fixed(30, 0);
        meanIs(x, "a part made later is late by none", 30, 1);
    }

    private static void hands() {
        EndTeller x = new EndTeller();
        x.fixed(1, 9);
        x.fixed(1, 9);
        x.fixed(1, 9);
        x.fixed(1, 3);
        meanIs(x, "30 hands at first", 1, 1);
        x.fixed(1, 1);
        meanIs(x, "31 asked", 2, 1);
        DUE.holds(x, "hands(9)", x.hands(9));
        meanIs(x, "with 9", 4, 1);
        DUE.holds(x, "hands(8)", x.hands(8));
        DUE.refuses(x, "mean() with 8", x.mean(), 8);
        EndTeller y = new EndTeller();
        y.fixed(1, 2);
        y.fixed(1, 1);
        y.hands(1);
        DUE.refuses(y, "mean() with the first stuck alone", y.mean(), 8);
        DUE.holds(x, "hands(30)", x.hands(30));
        meanIs(x, "with 30", 2, 1);
        DUE.holds(x, "hands(1)", x.hands(1));
        int[] wrong = {0, 31, -1, LEAST, MOST};
        for (int w : wrong) {
            DUE.refuses(x, "hands(" + w + ")", x.hands(w), 5);
        }
        DUE.refuses(x, "mean() with 1", x.mean(), 8);
    }

    private static void clear() {
        EndTeller x = new EndTeller();
        x.tray(0, 0, 1);
        x.write(0, 0, 7);
        x.fixed(5, 1);
        x.fixed(5, 1);
        x.need(1, 0, true);
        x.cause(1, 2);
        x.late(0, 0, 9);
        x.hands(1);
        x.end(0, 5);
        x.today(5);
        x.telling(1, 2, true);
        x.mean();
        DUE.fraction(x, "mean() before clear()", 10, 1);
        DUE.holds(x, "clear()", x.clear());
        DUE.fraction(x, "clear()", 10, 1);
        DUE.gives(x, "ways()", x.ways(), 1);
        DUE.refuses(x, "told(0, 0)", x.told(0, 0), 2);
        DUE.gives(x, "read(0, 0)", x.read(0, 0), 7);
        DUE.gives(x, "judged(5, 1)", x.judged(5, 1), 1);
        DUE.gives(x, "fixed(5, 9)", x.fixed(5, 9), 0);
        DUE.gives(x, "told(0, 4)", x.told(0, 4), -1);
        DUE.gives(x, "fixed(5, 9)", x.fixed(5, 9), 1);
        DUE.gives(x, "told(1, 3)", x.told(1, 3), 0);
        meanIs(x, "30 hands again, and no day", 5, 1);
        DUE.gives(x, "cause(1, 2)", x.cause(1, 2), 0);
        meanIs(x, "late by none", 5, 1);
        DUE.holds(x, "clear() of all", x.clear());
        DUE.holds(x, "clear() of none", x.clear());
    }

    private static void told() {
        EndTeller x = new EndTeller();
        table(x, 7, 1, 2, 3, 4);
        x.fixed(1, 0);
        x.fixed(1, 0);
        x.need(2, 1, true);
        DUE.gives(x, "told(0, 0)", x.told(0, 0), 2);
        DUE.gives(x, "told(0, 1)", x.told(0, 1), 3);
        DUE.gives(x, "told(0, 2)", x.told(0, 2), 7);
        DUE.gives(x, "told(0, 3)", x.told(0, 3), 0);
        DUE.gives(x, "told(2, 3): how many", x.told(2, 3), 1);
        x.need(2, 0, true);
        DUE.gives(x, "told(2, 3): how many", x.told(2, 3), 2);
        DUE.gives(x, "told(0, 4)", x.told(0, 4), -1);
        x.end(0, 17);
        DUE.gives(x, "told(0, 4)", x.told(0, 4), 17);
        DUE.gives(x, "told(1, 4)", x.told(1, 4), -1);
        DUE.refuses(x, "told(0, 5)", x.told(0, 5), 5);
        DUE.refuses(x, "told(0, -1)", x.told(0, -1), 5);
        DUE.refuses(x, "told(3, 0)", x.told(3, 0), 2);
        DUE.refuses(x, "told(-1, 0)", x.told(-1, 0), 2);
        DUE.refuses(x, "told 2 ahead of 5", x.told(3, 9), 2);
    }

    private static void row() {
        EndTeller x = new EndTeller();
        table(x, 0, 1, 2, 3, 4);
        rowIs(x, 0, 0, 1, 1);
        rowIs(x, 0, 1, 3, 2);
        DUE.refuses(x, "row(0, 2, 0)", x.row(0, 2, 0), 2);
        DUE.refuses(x, "row(0, -1, 0)", x.row(0, -1, 0), 2);
        DUE.refuses(x, "row(1, 0, 0)", x.row(1, 0, 0), 2);
        DUE.refuses(x, "row(-1, 0, 0)", x.row(-1, 0, 0), 2);
        DUE.refuses(x, "row 2 ahead of 5", x.row(0, 2, 2), 2);
        DUE.refuses(x, "row(0, 0, 2)", x.row(0, 0, 2), 5);
        DUE.refuses(x, "row(0, 0, -1)", x.row(0, 0, -1), 5);
        DUE.refuses(x, "row of the most", x.row(0, MOST, 0), 2);
    }

    private static void upperAndLower() {
        EndTeller x = new EndTeller();
        table(x, 0, 2, 3, 4, 3);
        DUE.tells(x, "ends(3)", x.ends(3), 1, 2);
        DUE.refuses(x, "ends(-1)", x.ends(-1), 5);
        DUE.fraction(x, "after a refusal", 1, 2);
        DUE.gives(x, "promise(0, 1)", x.promise(0, 1), 4);
        DUE.fraction(x, "after promise", 1, 2);
        DUE.gives(x, "surest()", x.surest(), 0);
        DUE.fraction(x, "after surest", 1, 2);
        DUE.gives(x, "ways()", x.ways(), 2);
        DUE.fraction(x, "after ways", 1, 2);
        x.clear();
        x.telling(1, 3, false);
        DUE.fraction(x, "after clear, telling", 1, 2);
        DUE.tells(x, "said(3)", x.said(3), 1, 3);
        DUE.tells(x, "mean() of none", x.mean(), 0, 1);
    }

    private static void ways() {
        EndTeller x = new EndTeller();
        table(x, 0, 1, 1, 2, 1, 3, 1);
        DUE.gives(x, "ways()", x.ways(), 3);
        table(x, 9, 1, 5, 2, 1);
        DUE.gives(x, "ways()", x.ways(), 6);
        x.cause(1, 12);
        DUE.gives(x, "ways()", x.ways(), 12);
        x.end(0, 1);
        x.today(50);
        x.hands(1);
        DUE.gives(x, "ways() left or not, stuck or not", x.ways(), 12);
        x.clear();
        for (int k = 0; k < 10; k++) {
            table(x, 0, 1, 1, 2, 1);
        }
        DUE.gives(x, "ways()", x.ways(), 1024);
        for (int k = 0; k < 4; k++) {
            x.cause(1, 2);
        }
        DUE.gives(x, "ways()", x.ways(), 16384);
    }

    private static void great() {
        EndTeller x = new EndTeller();
        table(x, 0, 1, 1, 2, 999);
        table(x, 0, 1, 1, 2, 19);
        DUE.gives(x, "ways() of 20,000", x.ways(), 4);
        DUE.tells(x, "ends(1)", x.ends(1), 1, 20000);
        x.clear();
        table(x, 0, 1, 1, 2, 58);
        table(x, 9, 1, 1, 2, 338);
        DUE.refuses(x, "ways() of 20,001", x.ways(), 9);
        DUE.refuses(x, "ends", x.ends(1), 9);
        DUE.refuses(x, "done", x.done(1, 1), 9);
        DUE.refuses(x, "promise", x.promise(1, 1), 9);
        DUE.refuses(x, "mean", x.mean(), 9);
        DUE.refuses(x, "spread", x.spread(), 9);
        DUE.refuses(x, "sure", x.sure(0), 9);
        DUE.refuses(x, "surest", x.surest(), 9);
        DUE.refuses(x, "moves", x.moves(0), 9);
        x.today(99);
        DUE.refuses(x, "mean 9 ahead of 10", x.mean(), 9);
        x.hands(8);
        DUE.refuses(x, "mean 8 ahead of 9", x.mean(), 8);
        x.clear();
        for (int k = 0; k < 10; k++) {
            table(x, 0, 1, 1000, 2, 999, 3, 1000, 4, 1000, 5, 1000, 6, 1000, 7, 1000, 8, 1000);
        }
        DUE.refuses(x, "ways() of the greatest work", x.ways(), 9);
        DUE.refuses(x, "mean() of the greatest work", x.mean(), 9);
    }

    private static void ends() {
        EndTeller x = new EndTeller();
        DUE.tells(x, "ends(0) of none", x.ends(0), 1, 1);
        table(x, 0, 1, 1, 3, 2, 5, 3);
        DUE.tells(x, "ends(0)", x.ends(0), 0, 1);
        DUE.tells(x, "ends(1)", x.ends(1), 1, 6);
        DUE.tells(x, "ends(2)", x.ends(2), 1, 6);
        DUE.tells(x, "ends(3)", x.ends(3), 1, 2);
        DUE.tells(x, "ends(5)", x.ends(5), 1, 1);
        DUE.tells(x, "ends of the most", x.ends(MOST), 1, 1);
        DUE.refuses(x, "ends(-1)", x.ends(-1), 5);
        DUE.refuses(x, "ends of the least", x.ends(LEAST), 5);
        x.today(1);
        DUE.tells(x, "ends(3) on day 1", x.ends(3), 2, 5);
        x.today(5);
        DUE.refuses(x, "ends(5) on day 5", x.ends(5), 10);
        x.fixed(1, 2);
        x.hands(1);
        DUE.refuses(x, "ends 8 ahead of 10", x.ends(5), 8);
        DUE.refuses(x, "ends 5 ahead of 8", x.ends(-1), 5);
    }

    private static void done() {
        EndTeller x = new EndTeller();
        table(x, 0, 1, 1, 3, 2);
        table(x, 0, 0, 1, 2, 1);
        x.need(1, 0, true);
        DUE.tells(x, "done(0, 0)", x.done(0, 0), 0, 1);
        DUE.tells(x, "done(0, 1)", x.done(0, 1), 1, 3);
        DUE.tells(x, "done(0, 3)", x.done(0, 3), 1, 1);
        DUE.tells(x, "done(1, 1)", x.done(1, 1), 1, 6);
        DUE.tells(x, "done(1, 3)", x.done(1, 3), 2, 3);
        DUE.tells(x, "done(1, 5)", x.done(1, 5), 1, 1);
        x.end(1, 3);
        DUE.tells(x, "done(0, 1) with an end", x.done(0, 1), 1, 3);
        DUE.tells(x, "done(1, 2) with an end", x.done(1, 2), 0, 1);
        DUE.refuses(x, "done(2, 0)", x.done(2, 0), 2);
        DUE.refuses(x, "done(-1, 0)", x.done(-1, 0), 2);
        DUE.refuses(x, "done 2 ahead of 5", x.done(2, -1), 2);
        DUE.refuses(x, "done(0, -1)", x.done(0, -1), 5);
        x.end(1, 4);
        DUE.refuses(x, "done with no ways", x.done(0, 0), 10);
        x.fixed(0, 5);
        x.hands(4);
        DUE.refuses(x, "done 8 ahead of 10", x.done(0, 0), 8);
        DUE.refuses(x, "done 5 ahead of 8", x.done(0, -1), 5);
    }

    private static void promise() {
        EndTeller x = new EndTeller();
        DUE.gives(x, "promise(0, 1) of none", x.promise(0, 1), 0);
        table(x, 0, 2, 1, 4, 2, 9, 3);
        DUE.gives(x, "promise(0, 1)", x.promise(0, 1), 9);
        DUE.gives(x, "promise(1, 2)", x.promise(1, 2), 4);
        DUE.gives(x, "promise(499999, 1000000)", x.promise(499999, 1000000), 9);
        DUE.gives(x, "promise(500000, 1000000)", x.promise(500000, 1000000), 4);
        DUE.gives(x, "promise(5, 6)", x.promise(5, 6), 2);
        DUE.gives(x, "promise(833333, 1000000)", x.promise(833333, 1000000), 4);
        DUE.gives(x, "promise(833334, 1000000)", x.promise(833334, 1000000), 2);
        DUE.gives(x, "promise(999999, 1000000)", x.promise(999999, 1000000), 2);
        DUE.gives(x, "promise(1000000, 1000000)", x.promise(1000000, 1000000), 0);
        int[][] wrong = {{-1, 1}, {2, 1}, {0, 0}, {0, -1}, {0, 1000001}, {1, LEAST}, {LEAST, 1}, {MOST, MOST}, {-1, -1}};
        for (int[] w : wrong) {
            DUE.refuses(x, "promise(" + w[0] + ", " + w[1] + ")", x.promise(w[0], w[1]), 5);
        }
        x.end(0, 3);
        DUE.refuses(x, "promise with no ways", x.promise(1, 1), 10);
        x.fixed(0, 5);
        x.hands(4);
        DUE.refuses(x, "promise 8 ahead of 10", x.promise(1, 1), 8);
        DUE.refuses(x, "promise 5 ahead of 8", x.promise(2, 1), 5);
    }

    private static void mean() {
        EndTeller x = new EndTeller();
        meanIs(x, "no parts", 0, 1);
        x.today(9);
        meanIs(x, "no parts on day 9", 0, 1);
        x.today(-1);
        table(x, 0, 1, 1, 3, 2, 5, 4);
        meanIs(x, "one part", 27, 7);
        table(x, 0, 3, 1, 4, 1);
        // later of the two: 3 or 4 with the first's 1 and 3, 5 with its 5
        meanIs(x, "two parts", 3 * 3 + 3 * 4 + 8 * 5, 14);
        x.today(4);
        DUE.refuses(x, "mean() with no ways", x.mean(), 10);
        x.hands(1);
        x.fixed(1, 2);
        DUE.refuses(x, "mean() of one stuck", x.mean(), 8);
    }

    private static void spread() {
        EndTeller x = new EndTeller();
        DUE.tells(x, "spread() of none", x.spread(), 0, 1);
        table(x, 0, 1, 1, 3, 2, 6, 3);
        // two ways: 2 * (1 * 2 * 2 + 1 * 3 * 5 + 2 * 3 * 3) of 36
        DUE.tells(x, "spread()", x.spread(), 37, 18);
        x.today(1);
        DUE.tells(x, "spread() on day 1", x.spread(), 2 * 2 * 3 * 3, 25);
        x.end(0, 6);
        DUE.tells(x, "spread() of one way", x.spread(), 0, 1);
        EndTeller y = new EndTeller();
        table(y, 0, 0, 1, 2, 3);
        DUE.tells(y, "spread() with an END on day 0", y.spread(), 2 * 3 * 2 / 4, 4);
        x.end(0, 7);
        DUE.refuses(x, "spread() with no ways", x.spread(), 10);
        x.hands(1);
        x.fixed(1, 2);
        DUE.refuses(x, "spread() of one stuck", x.spread(), 8);
    }

    private static void sure() {
        EndTeller x = new EndTeller();
        table(x, 0, 1, 1, 3, 2);
        table(x, 0, 1, 1, 5, 1);
        x.need(1, 0, true);
        // with the second known only the first's: 2 * 1 * 2 * 2 of 9; with the first known 2 * 4 of 4
        DUE.tells(x, "sure(0)", x.sure(0), 2, 1);
        DUE.tells(x, "sure(1)", x.sure(1), 8, 9);
        // side by side: 1, 5, 3, 5 by 1, 1, 2, 2
        x.need(1, 0, false);
        // first 1: 2 * 4 of 4 by 1 of 3; first 3: 2 * 2 of 4 by 2 of 3
        DUE.tells(x, "sure(0) side by side", x.sure(0), 4, 3);
        // second 1: 2 * 2 * 2 of 9 by 1 of 2; second 5: none
        DUE.tells(x, "sure(1) side by side", x.sure(1), 4, 9);
        x.end(1, 5);
        DUE.tells(x, "sure(1) with its end told", x.sure(1), 0, 1);
        DUE.refuses(x, "sure(2)", x.sure(2), 2);
        DUE.refuses(x, "sure(-1)", x.sure(-1), 2);
        x.end(1, 4);
        DUE.refuses(x, "sure(0) with no ways", x.sure(0), 10);
        x.hands(1);
        x.fixed(1, 2);
        DUE.refuses(x, "sure(0) of one stuck", x.sure(0), 8);
        DUE.refuses(x, "sure 2 ahead of 8", x.sure(3), 2);
    }

    /**
     * A part of 5 or 6 days, one of 1 or 2 behind it, one of 0, 1 or 2 behind that which ended on day 8: with 5 of
     * the first b1 * c2 and b2 * c1 are left, with 6 b1 * c1 and b2 * c0; a long part behind the second tells them
     * apart. The sums of these have lower numbers that are their products.
     */
    private static EndTeller correlated(int b1, int b2, int c0, int c1, int c2) {
        EndTeller x = new EndTeller();
        table(x, 0, 5, 1, 6, 1);
        table(x, 0, 1, b1, 2, b2);
        table(x, 0, 0, c0, 1, c1, 2, c2);
        x.fixed(90, 0);
        x.need(1, 0, true);
        x.need(2, 1, true);
        x.need(3, 1, true);
        x.end(2, 8);
        return x;
    }

    private static void sureGreat() {
        EndTeller x = correlated(1, 1, 919, 80, 921);
        // left are 921 and 80 with 5, 80 and 919 with 6: the lower number of their sum is 1001 * 999
        long above = 2L * 921 * 80 * 999 + 2L * 80 * 919 * 1001;
        long below = 1001L * 999 * 2000;
        long divisor = divisor(above, below);
        DUE.tells(x, "sure(0) by 999,999", x.sure(0), above / divisor, below / divisor);
        DUE.gives(x, "surest() by 999,999: the END is 98 less the third part", x.surest(), 2);
        DUE.tells(x, "sure(2)", x.sure(2), 0, 1);
        EndTeller y = correlated(1, 1, 919, 308, 507);
        // 815 * 1227 = 1,000,005
        DUE.refuses(y, "sure(0) by 1,000,005", y.sure(0), 9);
        DUE.refuses(y, "surest() of such", y.surest(), 9);
        DUE.tells(y, "sure(2) of the same", y.sure(2), 0, 1);
        DUE.holds(y, "spread() of the same", y.spread());
    }

    private static long divisor(long a, long b) {
        return b == 0 ? a : divisor(b, a % b);
    }

    private static void surest() {
        EndTeller x = new EndTeller();
        DUE.refuses(x, "surest() of none", x.surest(), 2);
        x.fixed(4, 0);
        DUE.gives(x, "surest() of one", x.surest(), 0);
        table(x, 0, 1, 1, 9, 1);
        DUE.gives(x, "surest() of the one that spreads", x.surest(), 1);
        table(x, 0, 1, 1, 9, 1);
        DUE.gives(x, "surest() of two alike", x.surest(), 1);
        x.need(2, 1, true);
        DUE.gives(x, "surest() of two in a row", x.surest(), 1);
        table(x, 0, 1, 1, 20, 1);
        x.need(3, 2, true);
        DUE.gives(x, "surest() of three in a row", x.surest(), 3);
        surestByLittle();
        x.today(99);
        DUE.refuses(x, "surest() with no ways", x.surest(), 10);
        x.fixed(1, 2);
        x.hands(1);
        DUE.refuses(x, "surest() of one stuck", x.surest(), 8);
        x.clear();
        x.today(99);
        DUE.refuses(x, "surest() of none on a day", x.surest(), 2);
    }

    /** What is left differs by less than a day. */
    private static void surestByLittle() {
        EndTeller x = new EndTeller();
        table(x, 0, 1, 1, 2, 1);
        table(x, 0, 1, 1, 2, 2);
        x.need(1, 0, true);
        DUE.tells(x, "sure(0)", x.sure(0), 4, 9);
        DUE.tells(x, "sure(1)", x.sure(1), 1, 2);
        DUE.gives(x, "surest() of 4 / 9 and 1 / 2", x.surest(), 0);
        x.clear();
        table(x, 0, 1, 1, 2, 3);
        table(x, 0, 1, 1, 2, 1);
        x.need(1, 0, true);
        DUE.tells(x, "sure(0)", x.sure(0), 1, 2);
        DUE.tells(x, "sure(1)", x.sure(1), 3, 8);
        DUE.gives(x, "surest() of 1 / 2 and 3 / 8", x.surest(), 1);
        x.clear();
        // 5 / 9 and 1 / 2: by the weight of all ways, 12, these are 20 / 3 and 6, less than one apart
        table(x, 0, 1, 1, 2, 1);
        table(x, 0, 1, 1, 3, 5);
        x.need(1, 0, true);
        DUE.tells(x, "sure(0)", x.sure(0), 5, 9);
        DUE.tells(x, "sure(1)", x.sure(1), 1, 2);
        DUE.gives(x, "surest() of 5 / 9 and 1 / 2", x.surest(), 1);
        x.clear();
        table(x, 0, 1, 1, 3, 5);
        table(x, 0, 1, 1, 2, 1);
        x.need(1, 0, true);
        DUE.gives(x, "surest() of 1 / 2 and 5 / 9", x.surest(), 0);
    }

    private static void moves() {
        EndTeller x = new EndTeller();
        table(x, 0, 1, 1, 4, 2);
        x.fixed(3, 0);
        DUE.tells(x, "moves(0)", x.moves(0), 2, 3);
        DUE.tells(x, "moves(1)", x.moves(1), 1, 3);
        x.today(2);
        x.end(1, 3);
        DUE.tells(x, "moves(1) of the ways left", x.moves(1), 0, 1);
        DUE.tells(x, "moves(0) of the ways left", x.moves(0), 1, 1);
        x.clear();
        x.fixed(0, 0);
        DUE.tells(x, "moves(0) of a part of 0 days", x.moves(0), 1, 1);
        x.fixed(1, 0);
        DUE.tells(x, "moves(0) within another's days", x.moves(0), 0, 1);
        DUE.refuses(x, "moves(2)", x.moves(2), 2);
        DUE.refuses(x, "moves(-1)", x.moves(-1), 2);
        x.end(0, 1);
        DUE.refuses(x, "moves(0) with no ways", x.moves(0), 10);
        x.fixed(1, 2);
        x.hands(1);
        DUE.refuses(x, "moves(0) of one stuck", x.moves(0), 8);
        movesEarlier();
    }

    /** With few hands a day more of one part may bring the END forward; that is not later. */
    private static void movesEarlier() {
        EndTeller x = new EndTeller();
        x.hands(2);
        x.fixed(2, 1);
        x.fixed(1, 1);
        x.fixed(1, 1);
        x.fixed(8, 1);
        x.need(2, 0, true);
        x.need(3, 1, true);
        x.fixed(3, 1);
        x.need(4, 0, true);
        // 0 and 1 begin, 3 runs 1 to 9, 2 runs 2 to 3, 4 runs 3 to 6
        meanIs(x, "few hands", 9, 1);
        DUE.tells(x, "moves(1)", x.moves(1), 1, 1);
        DUE.tells(x, "moves(0)", x.moves(0), 0, 1);
        EndTeller y = new EndTeller();
        y.hands(2);
        y.fixed(1, 1);
        y.fixed(2, 1);
        y.fixed(4, 1);
        y.fixed(9, 1);
        y.need(2, 0, true);
        y.need(3, 1, true);
        y.fixed(4, 1);
        y.need(4, 0, true);
        // 2 begins on day 1, 3 on 2 to 11, 4 on 5 to 9; a day more of 0: 2 and 3 on day 2, 4 on 6
        meanIs(y, "few hands", 11, 1);
        DUE.tells(y, "moves(0)", y.moves(0), 0, 1);
        EndTeller z = new EndTeller();
        z.hands(2);
        z.fixed(1, 1);
        z.fixed(2, 1);
        z.fixed(5, 2);
        z.fixed(9, 1);
        z.need(3, 0, true);
        // 0 to 1, 1 to 2, 3 from 1 to 10, then 2 to 15; with a day more of 0 2 goes first, 2 to 7, 3 to 16
        meanIs(z, "a part of two hands waits", 15, 1);
        DUE.tells(z, "moves(0)", z.moves(0), 1, 1);
        EndTeller e = new EndTeller();
        e.hands(2);
        e.fixed(1, 1);
        e.fixed(2, 1);
        e.fixed(5, 1);
        e.fixed(9, 1);
        e.fixed(5, 1);
        e.need(2, 0, true);
        e.need(3, 1, true);
        e.need(4, 0, true);
        // 2 from 1 to 6, 3 from 2 to 11, 4 from 6 to 11
        meanIs(e, "two end together", 11, 1);
        DUE.tells(e, "moves(2)", e.moves(2), 1, 1);
        DUE.tells(e, "moves(4)", e.moves(4), 1, 1);
        EndTeller f = new EndTeller();
        f.hands(2);
        f.fixed(2, 1);
        f.fixed(2, 1);
        f.fixed(2, 1);
        f.fixed(2, 1);
        f.fixed(6, 1);
        f.need(4, 0, true);
        f.need(2, 1, true);
        f.need(3, 1, true);
        // 2 and 3 from 2 to 4, 4 from 4 to 10; with a day more of 1: 4 from 2 to 8, 2 from 3 to 5, 3 from 5 to 7
        meanIs(f, "the long part waits", 10, 1);
        DUE.tells(f, "moves(1) that brings the END forward", f.moves(1), 0, 1);
        DUE.tells(f, "moves(4)", f.moves(4), 1, 1);
    }

    private static void end() {
        EndTeller x = new EndTeller();
        table(x, 0, 1, 1, 3, 2);
        table(x, 0, 2, 1, 4, 1);
        DUE.holds(x, "end(0, 3)", x.end(0, 3));
        meanIs(x, "the first ended on day 3", 7, 2);
        DUE.holds(x, "end(1, 2)", x.end(1, 2));
        meanIs(x, "both ended", 3, 1);
        DUE.holds(x, "end(0, -1)", x.end(0, -1));
        meanIs(x, "the first not any more", 8, 3);
        DUE.holds(x, "end(0, 0)", x.end(0, 0));
        DUE.refuses(x, "ended on day 0", x.mean(), 10);
        DUE.holds(x, "end(0, 9999)", x.end(0, 9999));
        DUE.gives(x, "told(0, 4)", x.told(0, 4), 9999);
        DUE.refuses(x, "end(0, 10000)", x.end(0, 10000), 5);
        DUE.refuses(x, "end(0, -2)", x.end(0, -2), 5);
        DUE.refuses(x, "end of the least", x.end(0, LEAST), 5);
        DUE.refuses(x, "end(2, 0)", x.end(2, 0), 2);
        DUE.refuses(x, "end(-1, 0)", x.end(-1, 0), 2);
        DUE.refuses(x, "end 2 ahead of 5", x.end(2, -2), 2);
        DUE.gives(x, "told(0, 4) after refusals", x.told(0, 4), 9999);
    }

    private static void today() {
        EndTeller x = new EndTeller();
        table(x, 0, 0, 1, 1, 1, 3, 2);
        DUE.holds(x, "today(0)", x.today(0));
        meanIs(x, "on day 0", 7, 3);
        DUE.holds(x, "today(1)", x.today(1));
        meanIs(x, "on day 1", 3, 1);
        DUE.holds(x, "today(-1)", x.today(-1));
        meanIs(x, "on no day", 7, 4);
        DUE.holds(x, "today(3)", x.today(3));
        DUE.refuses(x, "mean() on day 3", x.mean(), 10);
        x.end(0, 3);
        meanIs(x, "on day 3 and ended", 3, 1);
        x.end(0, 1);
        meanIs(x, "ended ahead of today", 1, 1);
        x.today(0);
        meanIs(x, "to end behind today", 1, 1);
        DUE.holds(x, "today(9999)", x.today(9999));
        DUE.refuses(x, "today(10000)", x.today(10000), 5);
        DUE.refuses(x, "today(-2)", x.today(-2), 5);
        DUE.refuses(x, "today of the least", x.today(LEAST), 5);
        x.end(0, -1);
        DUE.refuses(x, "mean() on day 9999", x.mean(), 10);
    }

    private static void telling() {
        EndTeller x = new EndTeller();
        int[][] wrong = {{-1, 1}, {2, 1}, {0, 0}, {0, 1001}, {0, -1}, {LEAST, LEAST}, {MOST, MOST}, {1, LEAST}};
        for (int[] w : wrong) {
            DUE.refuses(x, "telling(" + w[0] + ", " + w[1] + ", ..)", x.telling(w[0], w[1], true), 5);
        }
        int[][] steps = {{0, 1, 0}, {1, 1, 9}, {1, 10, 1}, {99, 1000, 0}, {1, 3, 3}, {899, 1000, 8}, {9, 10, 9},
            {1000, 1000, 9}, {1, 2, 5}, {499, 1000, 4}, {2, 3, 6}, {7, 10, 7}, {1, 5, 2}};
        int[] many = new int[10];
        for (int[] s : steps) {
            DUE.holds(x, "telling(" + s[0] + ", " + s[1] + ", ..)", x.telling(s[0], s[1], false));
            many[s[2]]++;
            for (int k = 0; k < 10; k++) {
                DUE.gives(x, "judged(" + k + ", 0)", x.judged(k, 0), many[k]);
            }
        }
        EndTeller y = new EndTeller();
        for (int k = 0; k < 1000; k++) {
            DUE.holds(y, "telling(1, 2, true)", y.telling(1, 2, true));
        }
        DUE.refuses(y, "telling 5 ahead of 7", y.telling(2, 1, true), 5);
        DUE.refuses(y, "a telling past 1,000", y.telling(0, 1, true), 7);
        DUE.gives(y, "judged(5, 0)", y.judged(5, 0), 1000);
    }

    private static void judged() {
        EndTeller x = new EndTeller();
        x.telling(1, 2, true);
        x.telling(1, 2, false);
        x.telling(59, 100, true);
        x.telling(6, 10, true);
        DUE.gives(x, "judged(5, 0)", x.judged(5, 0), 3);
        DUE.gives(x, "judged(5, 1)", x.judged(5, 1), 2);
        DUE.gives(x, "judged(6, 1)", x.judged(6, 1), 1);
        DUE.gives(x, "judged(9, 1)", x.judged(9, 1), 0);
        DUE.refuses(x, "judged(10, 0)", x.judged(10, 0), 2);
        DUE.refuses(x, "judged(-1, 0)", x.judged(-1, 0), 2);
        DUE.refuses(x, "judged 2 ahead of 5", x.judged(10, 2), 2);
        DUE.refuses(x, "judged(5, 2)", x.judged(5, 2), 5);
        DUE.refuses(x, "judged(5, -1)", x.judged(5, -1), 5);
    }

    private static void said() {
        EndTeller x = new EndTeller();
        x.telling(1, 2, true);
        DUE.tells(x, "said(5)", x.said(5), 1, 2);
        x.telling(5, 9, true);
        DUE.tells(x, "said(5) of two", x.said(5), 19, 36);
        x.telling(0, 7, true);
        x.telling(0, 1000, false);
        DUE.tells(x, "said(0)", x.said(0), 0, 1);
        x.telling(1, 1, false);
        DUE.tells(x, "said(9)", x.said(9), 1, 1);
        DUE.refuses(x, "said(4)", x.said(4), 5);
        DUE.refuses(x, "said(10)", x.said(10), 2);
        DUE.refuses(x, "said(-1)", x.said(-1), 2);
        DUE.fraction(x, "after refusals", 1, 1);
    }

    private static void saidGreat() {
        EndTeller x = new EndTeller();
        int[] primes = {997, 991, 983, 977};
        for (int p : primes) {
            x.telling(1, p, true);
            x.telling(p - 1, p, true);
        }
        long product = 997L * 991 * 983 * 977;
        DUE.is("the product is below 2 to the power 40", product <= 1L << 40, true);
        DUE.holds(x, "said(0) below 2 to the power 40", x.said(0));
        DUE.is("its lower number", x.lower() % product, 0);
        DUE.refuses(x, "said(9), its upper number past it", x.said(9), 9);
        DUE.fraction(x, "after a refusal", x.upper(), x.lower());
        DUE.gives(x, "judged(9, 0)", x.judged(9, 0), 4);
        x.telling(1, 11, false);
        DUE.refuses(x, "said(0), its lower number past it", x.said(0), 9);
        x.telling(0, 1, false);
        DUE.refuses(x, "said(0) stays past it", x.said(0), 9);
        DUE.gives(x, "judged(0, 0)", x.judged(0, 0), 6);
        x.telling(1, 2, false);
        DUE.tells(x, "said(5) all the same", x.said(5), 1, 2);
    }

    private static void stepping() {
        EndTeller x = new EndTeller();
        x.hands(3);
        x.fixed(4, 2);
        x.fixed(1, 2);
        x.fixed(2, 1);
        // 0 and 2 begin on day 0, though 1 has to wait; 1 from 4 to 5
        DUE.tells(x, "done(2, 2)", x.done(2, 2), 1, 1);
        DUE.tells(x, "done(1, 4)", x.done(1, 4), 0, 1);
        DUE.tells(x, "done(1, 5)", x.done(1, 5), 1, 1);
        x.clear();
        x.hands(1);
        x.fixed(0, 1);
        x.fixed(0, 1);
        x.fixed(2, 1);
        x.need(1, 0, true);
        x.need(2, 1, true);
        meanIs(x, "parts of 0 days hand on at once", 2, 1);
        x.clear();
        x.hands(2);
        x.fixed(3, 2);
        x.fixed(0, 1);
        x.fixed(5, 0);
        x.fixed(1, 2);
        x.need(3, 0, true);
        // 1 waits for hands until day 3; 3 begins on that day, too, as 1's hands are free again
        DUE.tells(x, "done(1, 2)", x.done(1, 2), 0, 1);
        DUE.tells(x, "done(1, 3)", x.done(1, 3), 1, 1);
        DUE.tells(x, "done(3, 4)", x.done(3, 4), 1, 1);
        meanIs(x, "a part without hands goes on", 5, 1);
        x.clear();
        x.hands(2);
        x.fixed(2, 1);
        x.fixed(2, 1);
        x.fixed(1, 2);
        x.fixed(1, 2);
        EndTeller y = new EndTeller();
        y.hands(1);
        y.fixed(0, 1);
        y.fixed(1, 1);
        y.fixed(1, 1);
        meanIs(y, "a part of 0 days frees no more hands than it had", 2, 1);
        // both end on day 2 ahead of any that begins, so 2 has two hands then
        meanIs(x, "all that end do so first", 4, 1);
    }

    /** Ten parts one behind the other, each late by four causes: day 4,950. */
    private static void latestEnd() {
        EndTeller x = new EndTeller();
        x.hands(1);
        for (int p = 0; p < 10; p++) {
            x.fixed(99, 1);
        }
        for (int c = 0; c < 4; c++) {
            x.cause(11, 12);
            for (int p = 0; p < 10; p++) {
                x.late(p, c, 99);
            }
        }
        DUE.refuses(x, "four causes of 12 are 20,736", x.ways(), 9);
        x.clear();
        x.hands(1);
        for (int p = 0; p < 10; p++) {
            x.fixed(99, 1);
        }
        for (int c = 0; c < 4; c++) {
            x.cause(1, 2);
            for (int p = 0; p < 10; p++) {
                x.late(p, c, 99);
            }
        }
        DUE.gives(x, "promise(0, 1)", x.promise(0, 1), 4950);
        DUE.gives(x, "promise(1, 16)", x.promise(1, 16), 3960);
        DUE.tells(x, "ends(4949)", x.ends(4949), 15, 16);
        meanIs(x, "the latest end", 990 * 3, 1);
        // 990 times how far two counts of causes are apart: 280 / 256
        DUE.tells(x, "spread()", x.spread(), 990 * 35 / 2, 16);
        DUE.tells(x, "sure(0)", x.sure(0), 990 * 35 / 2, 16);
        DUE.tells(x, "moves(9)", x.moves(9), 1, 1);
        DUE.tells(x, "done(9, 4949)", x.done(9, 4949), 15, 16);
        x.end(9, 4950);
        meanIs(x, "ended on day 4,950", 4950, 1);
    }

    /** Every call sets STATUS anew, even if it only tells something. */
    private static void wellAfterRefusal() {
        EndTeller x = new EndTeller();
        x.fixed(1, 0);
        x.cause(1, 2);
        x.tray(0, 0, 2);
        x.telling(1, 2, true);
        boolean[] went = new boolean[29];
        for (int k = 0; k < went.length; k++) {
            x.hands(0);
            DUE.is("status() after hands(0)", x.status(), 5);
            went[k] = wellCall(x, k);
            DUE.is("call " + k + " went well", went[k], true);
            DUE.is("status() after call " + k, x.status(), 0);
        }
    }

    private static boolean wellCall(EndTeller x, int k) {
        switch (k) {
            case 0: return x.tray(0, 0, 2);
            case 1: return x.write(0, 0, 1);
            case 2: return x.read(0, 0) == 1;
            case 3: return x.pour(0, 0, 0, 1, 1);
            case 4: return x.part(0, 1, 0) == 1;
            case 5: return x.fixed(1, 0) == 2;
            case 6: return x.either(0, 1, 1, 1, 0) == 3;
            case 7: return x.again(0, 1, 2, 0) == 4;
            case 8: return x.need(1, 0, true);
            case 9: return x.cause(1, 2) == 1;
            case 10: return x.late(0, 0, 1);
            case 11: return x.hands(30);
            case 12: return x.told(0, 0) == 1;
            case 13: return x.row(0, 0, 0) == 1;
            case 14: return x.ways() == 8;
            case 15: return x.ends(9);
            case 16: return x.done(0, 9);
            case 17: return x.promise(1, 1) == 0;
            case 18: return x.mean();
            case 19: return x.spread();
            case 20: return x.sure(0);
            case 21: return x.surest() >= 0;
            case 22: return x.moves(0);
            case 23: return x.end(0, 1);
            case 24: return x.today(0);
            case 25: return x.telling(0, 1, false);
            case 26: return x.judged(5, 0) == 1;
            case 27: return x.said(5);
            default: return x.clear();
        }
    }

    private static void refusedChangesNothing() {
        EndTeller x = new EndTeller();
        table(x, 1, 1, 1, 3, 1);
        x.cause(1, 2);
        x.late(0, 0, 2);
        x.mean();
        long upper = x.upper();
        long lower = x.lower();
        x.either(0, 9, 1, 1, 0);
        x.again(0, 2, 2, 0);
        x.cause(2, 2);
        x.late(0, 0, 100);
        x.need(0, 0, true);
        x.hands(31);
        x.end(0, 10000);
        x.today(10000);
        x.ends(-1);
        x.promise(2, 1);
        x.telling(2, 1, true);
        x.said(0);
        DUE.fraction(x, "after many refusals", upper, lower);
        DUE.gives(x, "ways()", x.ways(), 4);
        meanIs(x, "after many refusals", upper, lower);
    }
}
