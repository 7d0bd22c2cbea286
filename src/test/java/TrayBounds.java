/** Promises 1 to 6, and what the terms say of TRAYS: a test for each sentence that names a bound. */
public final class TrayBounds {
    private static final Due DUE = new Due("TrayBounds");
    private static final int LEAST = Integer.MIN_VALUE;
    private static final int MOST = Integer.MAX_VALUE;
    private static final int[] NO_TRAYS = {-1, 4, LEAST, MOST};

    private TrayBounds() {
    }

    public static void main(String[] args) {
        traysAreMissingAtFirst();
        noPartsAtFirst();
        noCausesAtFirst();
        fractionAtFirst();
        statusAtFirst();
        statusOfTheLatestCall();
        threeCallsHaveNoStatus();
        traysAreNoughtToThree();
        sortsAreNoughtToThree();
        atMostForty();
        lengthBelowNought();
        trayInThisOrder();
        lengthOfNought();
        allNought();
        newRowInAnOldOne();
        cutToBits();
        cutKeepsSign();
        writeToPlaces();
        readFromPlaces();
        noneFromMinusOne();
        pourAsTheyWere();
        pourOfAll();
        pourUpToTheLastPlace();
        pourFromPlaces();
        pourToPlaces();
        pourOfNone();
        pourBelowNought();
        pourOfUnlikeSorts();
        pourFromOrToMissing();
        pourOfNoTray();
        pourInThisOrder();
        pourPastTheGreatestInt();
        lastOfTheCalls();
        DUE.close();
    }

    private static void holds(EndTeller x, int tray, long... want) {
        for (int k = 0; k < want.length; k++) {
            DUE.gives(x, "read(" + tray + ", " + k + ")", x.read(tray, k), want[k]);
        }
        DUE.refuses(x, "read behind the last of tray " + tray, x.read(tray, want.length), 4);
    }

    // ---- Promise 1: "TRAYS are MISSING, no PARTS, no CAUSES; the FRACTION 0 by 1; STATUS 0."

    private static void traysAreMissingAtFirst() {
        for (int t = 0; t < 4; t++) {
            EndTeller x = new EndTeller();
            DUE.refuses(x, "new: read(" + t + ", 0)", x.read(t, 0), 3);
            DUE.refuses(x, "new: write(" + t + ", 0, 0)", x.write(t, 0, 0), 3);
            DUE.refuses(x, "new: pour(" + t + ", ..)", x.pour(t, 0, t, 0, 0), 3);
            DUE.refuses(x, "new: part(" + t + ", 1, 0)", x.part(t, 1, 0), 3);
        }
    }

    private static void noPartsAtFirst() {
        EndTeller x = new EndTeller();
        DUE.refuses(x, "new: told(0, 0)", x.told(0, 0), 2);
        DUE.refuses(x, "new: row(0, 0, 0)", x.row(0, 0, 0), 2);
        DUE.refuses(x, "new: surest()", x.surest(), 2);
        DUE.gives(x, "new: fixed(1, 0)", x.fixed(1, 0), 0);
    }

    private static void noCausesAtFirst() {
        EndTeller x = new EndTeller();
        DUE.gives(x, "new: ways()", x.ways(), 1);
        x.fixed(1, 0);
        DUE.refuses(x, "new: late(0, 0, 1)", x.late(0, 0, 1), 2);
        DUE.gives(x, "new: cause(1, 2)", x.cause(1, 2), 0);
    }

    private static void fractionAtFirst() {
        EndTeller x = new EndTeller();
        DUE.is("new: upper()", x.upper(), 0);
        DUE.is("new: lower()", x.lower(), 1);
    }

    private static void statusAtFirst() {
        DUE.is("new: status()", new EndTeller().status(), 0);
    }

    // ---- Promise 2: "The STATUS of the latest call that has one."

    private static void statusOfTheLatestCall() {
        EndTeller x = new EndTeller();
        x.read(4, 0);
        DUE.is("status() after 1", x.status(), 1);
        x.told(0, 0);
        DUE.is("status() after 2", x.status(), 2);
        x.read(0, 0);
        DUE.is("status() after 3", x.status(), 3);
        x.hands(0);
        DUE.is("status() after 5", x.status(), 5);
        x.hands(1);
        DUE.is("status() after 0", x.status(), 0);
    }

    // "status(), upper(), lower() have none."
    private static void threeCallsHaveNoStatus() {
        EndTeller x = new EndTeller();
        x.hands(31);
        DUE.is("status()", x.status(), 5);
        DUE.is("status() behind status()", x.status(), 5);
        x.upper();
        DUE.is("status() behind upper()", x.status(), 5);
        x.lower();
        DUE.is("status() behind lower()", x.status(), 5);
    }

    // ---- Promise 3: "A TRAY is a row of so many numbers (at most 40; 5), all 0 (1; 5; 6)."

    // "TRAYS, 0 to 3"; "1 no such TRAY"
    private static void traysAreNoughtToThree() {
        EndTeller x = new EndTeller();
        DUE.holds(x, "tray(0, ..)", x.tray(0, 0, 1));
        DUE.holds(x, "tray(3, ..)", x.tray(3, 0, 1));
        for (int t : NO_TRAYS) {
            DUE.refuses(x, "tray(" + t + ", ..)", x.tray(t, 0, 1), 1);
            DUE.refuses(x, "write(" + t + ", ..)", x.write(t, 0, 1), 1);
            DUE.refuses(x, "read(" + t + ", ..)", x.read(t, 0), 1);
            DUE.refuses(x, "part(" + t + ", ..)", x.part(t, 1, 0), 1);
        }
    }

    // "(sort 0), 16 (1), 32 (2) or 64 (3)"; "1 no such TRAY (or sort)"
    private static void sortsAreNoughtToThree() {
        EndTeller x = new EndTeller();
        for (int sort = 0; sort < 4; sort++) {
            DUE.holds(x, "tray of sort " + sort, x.tray(0, sort, 1));
        }
        for (int sort : NO_TRAYS) {
            DUE.refuses(x, "tray of sort " + sort, x.tray(0, sort, 1), 1);
        }
    }

    private static void atMostForty() {
        EndTeller x = new EndTeller();
        DUE.holds(x, "tray of 40", x.tray(0, 0, 40));
        DUE.holds(x, "write to place 39", x.write(0, 39, 5));
        DUE.gives(x, "read of place 39", x.read(0, 39), 5);
        DUE.refuses(x, "read of place 40", x.read(0, 40), 4);
        DUE.refuses(x, "tray of 41", x.tray(0, 0, 41), 5);
        DUE.refuses(x, "tray of the most", x.tray(0, 0, MOST), 5);
        DUE.gives(x, "read of place 39 all the same", x.read(0, 39), 5);
    }

    // "6 below 0 (a TRAY's length)"
    private static void lengthBelowNought() {
        EndTeller x = new EndTeller();
        DUE.refuses(x, "tray of -1", x.tray(0, 0, -1), 6);
        DUE.refuses(x, "tray of the least", x.tray(0, 0, LEAST), 6);
        DUE.refuses(x, "it is missing all the same", x.read(0, 0), 3);
    }

    // "(1; 5; 6)", and "STATUS of a call is the first of these that holds"
    private static void trayInThisOrder() {
        EndTeller x = new EndTeller();
        for (int t : NO_TRAYS) {
            DUE.refuses(x, "no tray, 1 ahead of 5", x.tray(t, 0, 41), 1);
            DUE.refuses(x, "no tray, 1 ahead of 6", x.tray(t, 0, -1), 1);
            DUE.refuses(x, "no sort, 1 ahead of 5", x.tray(0, t, 41), 1);
            DUE.refuses(x, "no sort, 1 ahead of 6", x.tray(0, t, -1), 1);
        }
    }

    private static void lengthOfNought() {
        EndTeller x = new EndTeller();
        DUE.holds(x, "tray of none", x.tray(0, 0, 0));
        DUE.refuses(x, "read of none: no place, but not missing", x.read(0, 0), 4);
        DUE.refuses(x, "write to none", x.write(0, 0, 1), 4);
        DUE.holds(x, "pour of none to none", x.pour(0, 0, 0, 0, 0));
        DUE.refuses(x, "pour of one from none", x.pour(0, 0, 0, 0, 1), 4);
        DUE.refuses(x, "part of none", x.part(0, 1, 0), 4);
    }

    private static void allNought() {
        EndTeller x = new EndTeller();
        x.tray(2, 3, 40);
        for (int k = 0; k < 40; k++) {
            DUE.gives(x, "read(2, " + k + ") at first", x.read(2, k), 0);
        }
    }

    private static void newRowInAnOldOne() {
        EndTeller x = new EndTeller();
        Lay.tray(x, 1, 3, 7, 8, 9);
        x.tray(1, 0, 2);
        holds(x, 1, 0, 0);
        x.tray(1, 3, 4);
        holds(x, 1, 0, 0, 0, 0);
        x.write(1, 3, 1L << 62);
        DUE.gives(x, "the new sort holds", x.read(1, 3), 1L << 62);
    }

    // ---- Promise 4: "A number comes to a place of a TRAY (1; 3; 4)."

    // "what is written is cut to these": a wrap-around at either end of each sort
    private static void cutToBits() {
        EndTeller x = new EndTeller();
        for (int sort = 0; sort < 4; sort++) {
            int bits = 8 << sort;
            long most = Long.MAX_VALUE >> (64 - bits);
            long least = Long.MIN_VALUE >> (64 - bits);
            Lay.tray(x, sort, sort, most, most + 1, least, least - 1);
            holds(x, sort, most, least, least, most);
        }
        Lay.tray(x, 0, 0, 255, 256, 257, -256, -257, Long.MAX_VALUE, Long.MIN_VALUE);
        holds(x, 0, -1, 0, 1, 0, -1, -1, 0);
        Lay.tray(x, 1, 1, 65535, 65536, 65537, -65536, -65537, Long.MAX_VALUE, Long.MIN_VALUE);
        holds(x, 1, -1, 0, 1, 0, -1, -1, 0);
        long two = 1L << 32;
        Lay.tray(x, 2, 2, two - 1, two, two + 1, -two, -two - 1, Long.MAX_VALUE, Long.MIN_VALUE);
        holds(x, 2, -1, 0, 1, 0, -1, -1, 0);
    }

    // "with sign"
    private static void cutKeepsSign() {
        EndTeller x = new EndTeller();
        for (int sort = 0; sort < 4; sort++) {
            Lay.tray(x, sort, sort, -1, -2, 1);
            holds(x, sort, -1, -2, 1);
        }
    }

    private static void writeToPlaces() {
        EndTeller x = new EndTeller();
        x.tray(0, 2, 3);
        DUE.holds(x, "write(0, 0, 1)", x.write(0, 0, 1));
        DUE.holds(x, "write(0, 2, 3)", x.write(0, 2, 3));
        for (int place : new int[] {-1, 3, 39, 40, LEAST, MOST}) {
            DUE.refuses(x, "write(0, " + place + ", 9)", x.write(0, place, 9), 4);
        }
        DUE.refuses(x, "write to a missing one", x.write(1, 0, 9), 3);
        DUE.refuses(x, "write to a missing one, 3 ahead of 4", x.write(1, -1, 9), 3);
        DUE.refuses(x, "write, 1 ahead of 4", x.write(4, -1, 9), 1);
        holds(x, 0, 1, 0, 3);
    }

    // ---- Promise 5: "The number in a place of a TRAY; STATUS tells NONE from -1 (1; 3; 4)."

    private static void readFromPlaces() {
        EndTeller x = new EndTeller();
        Lay.tray(x, 0, 2, 5, 6, 7);
        holds(x, 0, 5, 6, 7);
        for (int place : new int[] {-1, 3, 39, 40, LEAST, MOST}) {
            DUE.refuses(x, "read(0, " + place + ")", x.read(0, place), 4);
        }
        DUE.refuses(x, "read of a missing one", x.read(1, 0), 3);
        DUE.refuses(x, "read of a missing one, 3 ahead of 4", x.read(1, -1), 3);
        DUE.refuses(x, "read, 1 ahead of 4", x.read(4, -1), 1);
    }

    private static void noneFromMinusOne() {
        EndTeller x = new EndTeller();
        Lay.tray(x, 0, 0, -1);
        DUE.is("read(0, 0) of -1", x.read(0, 0), -1);
        DUE.is("status() of -1", x.status(), 0);
        DUE.is("read(0, 1) is NONE", x.read(0, 1), EndTeller.NONE);
        DUE.is("status() of NONE", x.status(), 4);
    }

    // ---- Promise 6: "So many numbers from place i on of a TRAY come to place j on of another one, or the same, as
    // they were: 1, 3 (either), 11, 6, 4, asked in this order."

    private static void pourAsTheyWere() {
        EndTeller x = new EndTeller();
        Lay.tray(x, 0, 2, 1, 2, 3, 4, 5);
        DUE.holds(x, "pour forward within one", x.pour(0, 0, 0, 1, 4));
        holds(x, 0, 1, 1, 2, 3, 4);
        Lay.tray(x, 0, 2, 1, 2, 3, 4, 5);
        DUE.holds(x, "pour backward within one", x.pour(0, 1, 0, 0, 4));
        holds(x, 0, 2, 3, 4, 5, 5);
        DUE.holds(x, "pour onto itself", x.pour(0, 0, 0, 0, 5));
        holds(x, 0, 2, 3, 4, 5, 5);
    }

    private static void pourOfAll() {
        EndTeller x = new EndTeller();
        x.tray(0, 3, 40);
        for (int k = 0; k < 40; k++) {
            x.write(0, k, k - 20L);
        }
        x.tray(1, 3, 40);
        DUE.holds(x, "pour of 40", x.pour(0, 0, 1, 0, 40));
        for (int k = 0; k < 40; k++) {
            DUE.gives(x, "read(1, " + k + ")", x.read(1, k), k - 20L);
            DUE.gives(x, "read(0, " + k + ")", x.read(0, k), k - 20L);
        }
        DUE.refuses(x, "pour of 41", x.pour(0, 0, 1, 0, 41), 4);
    }

    private static void pourUpToTheLastPlace() {
        EndTeller x = new EndTeller();
        Lay.tray(x, 0, 1, 1, 2, 3);
        x.tray(1, 1, 5);
        DUE.holds(x, "pour(0, 1, 1, 3, 2)", x.pour(0, 1, 1, 3, 2));
        holds(x, 1, 0, 0, 0, 2, 3);
        DUE.holds(x, "pour(0, 2, 1, 4, 1)", x.pour(0, 2, 1, 4, 1));
        DUE.holds(x, "pour(0, 2, 1, 0, 1)", x.pour(0, 2, 1, 0, 1));
        holds(x, 1, 3, 0, 0, 2, 3);
    }

    private static void pourFromPlaces() {
        EndTeller x = new EndTeller();
        x.tray(0, 2, 3);
        x.tray(1, 2, 9);
        DUE.refuses(x, "pour from -1", x.pour(0, -1, 1, 0, 1), 4);
        DUE.refuses(x, "pour from 3", x.pour(0, 3, 1, 0, 1), 4);
        DUE.refuses(x, "pour of one past the last", x.pour(0, 2, 1, 0, 2), 4);
        DUE.refuses(x, "pour of more than there are", x.pour(0, 0, 1, 0, 4), 4);
        DUE.refuses(x, "pour from the least", x.pour(0, LEAST, 1, 0, 1), 4);
    }

    private static void pourToPlaces() {
        EndTeller x = new EndTeller();
        x.tray(0, 2, 9);
        x.tray(1, 2, 3);
        DUE.refuses(x, "pour to -1", x.pour(0, 0, 1, -1, 1), 4);
        DUE.refuses(x, "pour to 3", x.pour(0, 0, 1, 3, 1), 4);
        DUE.refuses(x, "pour to one past the last", x.pour(0, 0, 1, 2, 2), 4);
        DUE.refuses(x, "pour of more than it has", x.pour(0, 0, 1, 0, 4), 4);
        DUE.refuses(x, "pour to the least", x.pour(0, 0, 1, LEAST, 1), 4);
    }

    private static void pourOfNone() {
        EndTeller x = new EndTeller();
        Lay.tray(x, 0, 2, 1, 2);
        Lay.tray(x, 1, 2, 8, 9, 7);
        DUE.holds(x, "pour of none", x.pour(0, 0, 1, 0, 0));
        DUE.holds(x, "pour of none at the ends", x.pour(0, 2, 1, 3, 0));
        DUE.refuses(x, "pour of none from behind the end", x.pour(0, 3, 1, 0, 0), 4);
        DUE.refuses(x, "pour of none to behind the end", x.pour(0, 0, 1, 4, 0), 4);
        DUE.refuses(x, "pour of none from -1", x.pour(0, -1, 1, 0, 0), 4);
        holds(x, 1, 8, 9, 7);
    }

    private static void pourBelowNought() {
        EndTeller x = new EndTeller();
        x.tray(0, 2, 3);
        DUE.refuses(x, "pour of -1", x.pour(0, 1, 0, 1, -1), 6);
        DUE.refuses(x, "pour of the least", x.pour(0, 1, 0, 1, LEAST), 6);
    }

    // "11 TRAYS of unlike sorts"
    private static void pourOfUnlikeSorts() {
        EndTeller x = new EndTeller();
        for (int sort = 0; sort < 4; sort++) {
            x.tray(sort, sort, 2);
        }
        for (int from = 0; from < 4; from++) {
            for (int to = 0; to < 4; to++) {
                boolean poured = x.pour(from, 0, to, 0, 1);
                if (from == to) {
                    DUE.holds(x, "pour of one sort", poured);
                } else {
                    DUE.refuses(x, "pour of sort " + from + " to " + to, poured, 11);
                }
            }
        }
    }

    private static void pourFromOrToMissing() {
        EndTeller x = new EndTeller();
        x.tray(0, 0, 2);
        DUE.refuses(x, "pour from a missing one", x.pour(1, 0, 0, 0, 1), 3);
        DUE.refuses(x, "pour to a missing one", x.pour(0, 0, 1, 0, 1), 3);
        DUE.refuses(x, "pour from and to missing ones", x.pour(1, 0, 2, 0, 1), 3);
        DUE.refuses(x, "pour of none to a missing one", x.pour(0, 0, 1, 0, 0), 3);
    }

    private static void pourOfNoTray() {
        EndTeller x = new EndTeller();
        x.tray(0, 0, 2);
        for (int t : NO_TRAYS) {
            DUE.refuses(x, "pour from " + t, x.pour(t, 0, 0, 0, 1), 1);
            DUE.refuses(x, "pour to " + t, x.pour(0, 0, t, 0, 1), 1);
        }
    }

    private static void pourInThisOrder() {
        EndTeller x = new EndTeller();
        x.tray(0, 0, 2);
        x.tray(1, 1, 2);
        DUE.refuses(x, "1 ahead of 3, 6 and 4", x.pour(2, 9, 4, 9, -1), 1);
        DUE.refuses(x, "1 of the first ahead of 3 of the second", x.pour(-1, 0, 2, 0, 1), 1);
        DUE.refuses(x, "3 ahead of 6 and 4", x.pour(0, 9, 2, 9, -1), 3);
        DUE.refuses(x, "3 ahead of 4", x.pour(2, 9, 0, 9, 1), 3);
        DUE.refuses(x, "11 ahead of 6 and 4", x.pour(0, 9, 1, 9, -1), 11);
        DUE.refuses(x, "11 ahead of 4", x.pour(0, 9, 1, 9, 1), 11);
        DUE.refuses(x, "6 ahead of 4", x.pour(0, 9, 0, 9, -1), 6);
        DUE.refuses(x, "4 at last", x.pour(0, 9, 0, 9, 1), 4);
    }

    private static void pourPastTheGreatestInt() {
        EndTeller x = new EndTeller();
        Lay.tray(x, 0, 2, 1, 2, 3);
        DUE.refuses(x, "pour of the most from 1", x.pour(0, 1, 0, 0, MOST), 4);
        DUE.refuses(x, "pour of the most to 1", x.pour(0, 0, 0, 1, MOST), 4);
        DUE.refuses(x, "pour of one from the most", x.pour(0, MOST, 0, 0, 1), 4);
        DUE.refuses(x, "pour of one to the most", x.pour(0, 0, 0, MOST, 1), 4);
        DUE.refuses(x, "pour of the most from the most", x.pour(0, MOST, 0, MOST, MOST), 4);
        holds(x, 0, 1, 2, 3);
    }

    // "An object is used for at most 512 calls after it has been made"
    private static void lastOfTheCalls() {
        EndTeller x = new EndTeller();
        x.tray(0, 3, 40);
        for (int k = 1; k < 511; k++) {
            x.write(0, k % 40, k);
        }
        DUE.is("the 512th call", x.read(0, 510 % 40), 510);
    }
}
