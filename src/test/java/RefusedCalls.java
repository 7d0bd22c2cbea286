/**
 * "A call with another STATUS than 0 gives NONE, or false, and changes nothing but STATUS.": each call with each STATUS
 * that it may have is made on one of two twins; all that can be asked of them is the same then.
 */
public final class RefusedCalls {
    private static final Due DUE = new Due("RefusedCalls");

    private interface Scene {
        EndTeller make();
    }

    private interface Asks {
        boolean of(EndTeller x);
    }

    private interface Gives {
        long of(EndTeller x);
    }

    private RefusedCalls() {
    }

    public static void main(String[] args) {
        trays();
        parts();
        tables();
        causesAndHands();
        toldAndRow();
        chances();
        came();
        tellings();
        DUE.close();
    }

    private static void no(String call, int status, Scene scene, Asks asks) {
        none(call, status, scene, x -> asks.of(x) ? 1 : EndTeller.NONE);
    }

    private static void none(String call, int status, Scene scene, Gives gives) {
        EndTeller asked = scene.make();
        EndTeller twin = scene.make();
        DUE.refuses(asked, call, gives.of(asked), status);
        DUE.refuses(asked, call + " once more", gives.of(asked), status);
        String after = seen(asked);
        String without = seen(twin);
        DUE.is(call + " changes nothing", after.equals(without), true);
        if (!after.equals(without)) {
            System.out.println(" with it:    " + after);
            System.out.println(" without it: " + without);
        }
    }

    // ---- all that can be asked

    private static String seen(EndTeller x) {
        StringBuilder all = new StringBuilder("fraction " + x.upper() + "/" + x.lower());
        for (int t = 0; t < 4; t++) {
            all.append("; tray");
            for (int place = 0; place < 5; place++) {
                put(all, x, x.read(t, place));
            }
        }
        int parts = 0;
        while (x.told(parts, 0) != EndTeller.NONE) {
            seePart(all, x, parts);
            parts++;
        }
        seeChances(all, x, parts);
        for (int s = 0; s < 10; s++) {
            all.append("; step");
            put(all, x, x.judged(s, 0));
            put(all, x, x.judged(s, 1));
            putFraction(all, x, x.said(s));
        }
        seeWhatIsHidden(all, x, parts);
        return all.toString();
    }

    private static void put(StringBuilder all, EndTeller x, long answer) {
        all.append(' ').append(answer);
        if (answer < 0) {
            all.append('(').append(x.status()).append(')');
        }
    }

    private static void putFraction(StringBuilder all, EndTeller x, boolean answer) {
        if (answer) {
            all.append(' ').append(x.upper()).append('/').append(x.lower());
        } else {
            all.append(" (").append(x.status()).append(')');
        }
    }

    private static void seePart(StringBuilder all, EndTeller x, int part) {
        all.append("; part");
        for (int what = 0; what < 5; what++) {
            put(all, x, x.told(part, what));
        }
        for (int k = 0; k < x.told(part, 0); k++) {
            put(all, x, x.row(part, k, 0));
            put(all, x, x.row(part, k, 1));
        }
    }

    private static void seeChances(StringBuilder all, EndTeller x, int parts) {
        all.append("; chances");
        put(all, x, x.ways());
        putFraction(all, x, x.ends(4));
        put(all, x, x.promise(1, 3));
        putFraction(all, x, x.mean());
        putFraction(all, x, x.spread());
        put(all, x, x.surest());
        for (int p = 0; p < parts; p++) {
            putFraction(all, x, x.done(p, 3));
            putFraction(all, x, x.sure(p));
            putFraction(all, x, x.moves(p));
        }
    }

    /** Sorts of TRAYS, HANDS of the house, room for CAUSES and PARTS: only what comes later shows them. */
    private static void seeWhatIsHidden(StringBuilder all, EndTeller x, int parts) {
        all.append("; hidden");
        for (int t = 0; t < 4; t++) {
            x.write(t, 0, (1L << 40) + (1L << 20) + (1L << 10) + 1);
            put(all, x, x.read(t, 0));
        }
        put(all, x, x.cause(1, 2));
        put(all, x, x.fixed(1, 0));
        for (int p = 0; p < parts; p++) {
            x.end(p, EndTeller.NONE);
        }
        putFraction(all, x, x.mean());
        x.today(EndTeller.NONE);
        putFraction(all, x, x.mean());
    }

    // ---- scenes

    private static void decorate(EndTeller x) {
        Lay.tray(x, 0, 2, 1, 2, 3, 4);
        Lay.tray(x, 1, 1, 5, -1);
        Lay.tray(x, 3, 3, 9, 1, 1L << 40, 2);
        x.telling(1, 2, true);
        x.telling(4, 7, false);
        x.telling(1, 1, true);
        x.said(5);
    }

    private static EndTeller plain() {
        EndTeller x = new EndTeller();
        Lay.table(x, 1, 1, 1, 3, 2);
        x.fixed(2, 1);
        Lay.table(x, 2, 0, 1, 2, 3);
        x.need(2, 0, true);
        x.cause(1, 3);
        x.late(0, 0, 2);
        x.hands(2);
        x.today(0);
        decorate(x);
        return x;
    }

    private static EndTeller full() {
        EndTeller x = new EndTeller();
        Lay.table(x, 9, 1, 1, 2, 2);
        for (int p = 1; p < 8; p++) {
            x.fixed(p, p);
        }
        x.fixed(60, 0);
        Lay.table(x, 0, 0, 1, 1, 1, 2, 1, 3, 1, 4, 1);
        for (int c = 0; c < 4; c++) {
            x.cause(1, 2);
            x.late(c, c, c + 1);
        }
        x.need(9, 3, true);
        x.end(4, 4);
        decorate(x);
        return x;
    }

    private static EndTeller stuck() {
        EndTeller x = Lay.stuck();
        decorate(x);
        return x;
    }

    private static EndTeller great() {
        EndTeller x = Lay.great();
        decorate(x);
        return x;
    }

    private static EndTeller withoutWays() {
        EndTeller x = Lay.withoutWays();
        decorate(x);
        return x;
    }

    private static EndTeller ofGreatSum() {
        EndTeller x = Lay.chain(new int[] {1, 1}, new int[] {1, 2}, new int[] {971, 906, 997}, 2);
        decorate(x);
        return x;
    }

    private static EndTeller bare() {
        EndTeller x = new EndTeller();
        decorate(x);
        return x;
    }

    /** Exactly the HANDS of the house are asked on day 0, and one more is there to wait. */
    private static EndTeller ofThirtyHands() {
        EndTeller x = new EndTeller();
        for (int p = 0; p < 3; p++) {
            x.fixed(2, 9);
        }
        x.fixed(2, 3);
        x.fixed(5, 1);
        decorate(x);
        return x;
    }

    private static EndTeller forGreatWeights() {
        EndTeller x = new EndTeller();
        Lay.table(x, 0, 1, 1, 2, 1000);
        x.fixed(3, 0);
        Lay.table(x, 0, 1, 2, 3, 11);
        decorate(x);
        return x;
    }

    private static EndTeller forManyRows() {
        EndTeller x = new EndTeller();
        Lay.table(x, 0, 0, 1, 1, 1, 2, 1, 3, 1, 4, 1, 5, 1, 6, 1, 7, 1);
        x.fixed(50, 0);
        decorate(x);
        return x;
    }

    // ---- the calls

    private static void trays() {
        Scene plain = RefusedCalls::plain;
        no("tray(-1, ..)", 1, plain, x -> x.tray(-1, 0, 1));
        no("tray(4, ..)", 1, plain, x -> x.tray(4, 0, 1));
        no("tray of sort -1", 1, plain, x -> x.tray(0, -1, 1));
        no("tray of sort 4", 1, plain, x -> x.tray(0, 4, 1));
        no("tray of 41", 5, plain, x -> x.tray(0, 0, 41));
        no("tray of 41 to a missing one", 5, plain, x -> x.tray(2, 0, 41));
        no("tray of -1", 6, plain, x -> x.tray(0, 0, -1));
        no("tray of -1 to a missing one", 6, plain, x -> x.tray(2, 0, -1));
        no("write(4, ..)", 1, plain, x -> x.write(4, 0, 7));
        no("write to a missing one", 3, plain, x -> x.write(2, 0, 7));
        no("write behind the last", 4, plain, x -> x.write(0, 4, 7));
        no("write to -1", 4, plain, x -> x.write(0, -1, 7));
        none("read(-1, 0)", 1, plain, x -> x.read(-1, 0));
        none("read of a missing one", 3, plain, x -> x.read(2, 0));
        none("read behind the last", 4, plain, x -> x.read(1, 2));
        no("pour to 4", 1, plain, x -> x.pour(0, 0, 4, 0, 1));
        no("pour to a missing one", 3, plain, x -> x.pour(0, 0, 2, 0, 1));
        no("pour of unlike sorts", 11, plain, x -> x.pour(0, 0, 1, 0, 1));
        no("pour of -1", 6, plain, x -> x.pour(0, 0, 0, 1, -1));
        no("pour of one too many", 4, plain, x -> x.pour(0, 0, 0, 1, 4));
        no("pour from behind the last", 4, plain, x -> x.pour(0, 4, 0, 0, 1));
    }

    private static void parts() {
        Scene plain = RefusedCalls::plain;
        Scene full = RefusedCalls::full;
        none("part(4, ..)", 1, plain, x -> x.part(4, 1, 0));
        none("part of a missing one", 3, plain, x -> x.part(2, 1, 0));
        none("part of no rows", 5, plain, x -> x.part(0, 0, 0));
        none("part of 9 rows", 5, plain, x -> x.part(0, 9, 0));
        none("part of 10 hands", 5, plain, x -> x.part(0, 1, 10));
        none("part of more than the tray has", 4, plain, x -> x.part(0, 3, 0));
        none("part of a weight of -1", 5, plain, x -> x.part(1, 1, 0));
        none("part of days past 99 in its second row", 5, plain, x -> x.part(3, 2, 0));
        none("an eleventh part", 7, full, x -> x.part(0, 2, 0));
        none("fixed(100, 0)", 5, plain, x -> x.fixed(100, 0));
        none("fixed(0, 10)", 5, plain, x -> x.fixed(0, 10));
        none("an eleventh by fixed", 7, full, x -> x.fixed(1, 1));
        no("need of no part", 2, plain, x -> x.need(3, 0, true));
        no("need by no part", 2, plain, x -> x.need(2, 3, true));
        no("need of itself", 5, plain, x -> x.need(2, 2, true));
        no("no need of a greater one", 5, plain, x -> x.need(0, 2, false));
    }

    private static void tables() {
        Scene plain = RefusedCalls::plain;
        Scene full = RefusedCalls::full;
        none("either of no part", 2, plain, x -> x.either(0, 3, 1, 1, 0));
        none("either of weight 0", 5, plain, x -> x.either(0, 1, 0, 1, 0));
        none("either of 10 hands", 5, plain, x -> x.either(0, 1, 1, 1, 10));
        none("an eleventh by either", 7, full, x -> x.either(0, 1, 1, 1, 0));
        none("either with a weight of 1,001", 7, RefusedCalls::forGreatWeights, x -> x.either(0, 1, 1, 1, 0));
        none("either of too many rows", 7, RefusedCalls::forManyRows, x -> x.either(0, 1, 1, 1, 0));
        none("again of no part", 2, plain, x -> x.again(3, 1, 2, 0));
        none("again of 2 / 2", 5, plain, x -> x.again(0, 2, 2, 0));
        none("again of 10 hands", 5, plain, x -> x.again(0, 1, 2, 10));
        none("an eleventh by again", 7, full, x -> x.again(0, 1, 2, 0));
        none("again with a weight of 1,001", 7, RefusedCalls::forGreatWeights, x -> x.again(2, 1, 8, 0));
        none("again of too many rows", 7, RefusedCalls::forManyRows, x -> x.again(0, 1, 2, 0));
        none("again of too many days", 7, RefusedCalls::forManyRows, x -> x.again(1, 1, 2, 0));
    }

    private static void causesAndHands() {
        Scene plain = RefusedCalls::plain;
        none("cause(0, 2)", 5, plain, x -> x.cause(0, 2));
        none("cause(1, 13)", 5, plain, x -> x.cause(1, 13));
        none("a fifth cause", 7, RefusedCalls::full, x -> x.cause(1, 3));
        no("late of no part", 2, plain, x -> x.late(3, 0, 1));
        no("late by no cause", 2, plain, x -> x.late(0, 1, 1));
        no("late by -1", 5, plain, x -> x.late(0, 0, -1));
        no("late by 100", 5, plain, x -> x.late(0, 0, 100));
        no("hands(0)", 5, plain, x -> x.hands(0));
        no("hands(31)", 5, RefusedCalls::ofThirtyHands, x -> x.hands(31));
        no("hands(-1)", 5, RefusedCalls::ofThirtyHands, x -> x.hands(-1));
    }

    private static void toldAndRow() {
        Scene plain = RefusedCalls::plain;
        none("told of no part", 2, plain, x -> x.told(3, 0));
        none("told of 5", 5, plain, x -> x.told(0, 5));
        none("row of no part", 2, plain, x -> x.row(3, 0, 0));
        none("row of no row", 2, plain, x -> x.row(0, 2, 0));
        none("row of 2", 5, plain, x -> x.row(0, 0, 2));
    }

    private static void chances() {
        Scene plain = RefusedCalls::plain;
        none("ways() of a great work", 9, RefusedCalls::great, x -> x.ways());
        no("ends(-1)", 5, plain, x -> x.ends(-1));
        no("done of no part", 2, plain, x -> x.done(3, 1));
        no("done(0, -1)", 5, plain, x -> x.done(0, -1));
        none("promise(2, 1)", 5, plain, x -> x.promise(2, 1));
        no("sure of no part", 2, plain, x -> x.sure(3));
        none("surest() of no parts", 2, RefusedCalls::bare, x -> x.surest());
        no("moves of no part", 2, plain, x -> x.moves(3));
        no("sure(0) of a great sum", 9, RefusedCalls::ofGreatSum, x -> x.sure(0));
        none("surest() of a great sum", 9, RefusedCalls::ofGreatSum, x -> x.surest());
        chancesOf(8, RefusedCalls::stuck);
        chancesOf(9, RefusedCalls::great);
        chancesOf(10, RefusedCalls::withoutWays);
    }

    private static void chancesOf(int status, Scene scene) {
        no("ends", status, scene, x -> x.ends(1));
        no("done", status, scene, x -> x.done(0, 1));
        none("promise", status, scene, x -> x.promise(1, 2));
        no("mean", status, scene, x -> x.mean());
        no("spread", status, scene, x -> x.spread());
        no("sure", status, scene, x -> x.sure(0));
        none("surest", status, scene, x -> x.surest());
        no("moves", status, scene, x -> x.moves(0));
    }

    private static void came() {
        Scene plain = RefusedCalls::plain;
        no("end of no part", 2, plain, x -> x.end(3, 1));
        no("end(0, 10000)", 5, plain, x -> x.end(0, 10000));
        no("end(0, -2)", 5, plain, x -> x.end(0, -2));
        no("end(4, 10000) of one that was told", 5, RefusedCalls::full, x -> x.end(4, 10000));
        no("today(10000)", 5, plain, x -> x.today(10000));
        no("today(-2)", 5, plain, x -> x.today(-2));
    }

    private static void tellings() {
        Scene plain = RefusedCalls::plain;
        no("telling(2, 1, true)", 5, plain, x -> x.telling(2, 1, true));
        no("telling(0, 0, true)", 5, plain, x -> x.telling(0, 0, true));
        no("telling(0, 1001, false)", 5, plain, x -> x.telling(0, 1001, false));
        no("a telling past 1,000", 7, RefusedCalls::ofAThousandTellings, x -> x.telling(1, 3, true));
        none("judged of no step", 2, plain, x -> x.judged(10, 0));
        none("judged of 2", 5, plain, x -> x.judged(5, 2));
        no("said of no step", 2, plain, x -> x.said(10));
        no("said of none", 5, plain, x -> x.said(0));
        no("said of a great sum", 9, RefusedCalls::ofGreatShares, x -> x.said(0));
    }

    private static EndTeller ofAThousandTellings() {
        EndTeller x = plain();
        for (int k = 3; k < 1000; k++) {
            x.telling(k % 7, 7, k % 2 == 0);
        }
        return x;
    }

    private static EndTeller ofGreatShares() {
        EndTeller x = plain();
        for (int d = 995; d < 1000; d++) {
            x.telling(1, d, true);
        }
        return x;
    }
}
