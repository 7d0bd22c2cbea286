import java.util.Arrays;

/**
 * A foreteller of ends: works of parts whose days are tables with weights, causes that make several
 * late together, few hands that go by a told rule. The chance of each end is an exact fraction.
 */
public final class EndTeller {
    public static final int NONE = -1;

    private static final int WELL = 0;
    private static final int NO_TRAY = 1;
    private static final int NO_SUCH = 2;
    private static final int MISSING = 3;
    private static final int NO_PLACE = 4;
    private static final int NO_NUMBER = 5;
    private static final int BELOW_NOUGHT = 6;
    private static final int TOO_MANY = 7;
    private static final int STUCK = 8;
    private static final int GREAT = 9;
    private static final int NO_WAYS = 10;
    private static final int UNLIKE = 11;

    private static final int MOST_TRAYS = 4;
    private static final int MOST_SORTS = 4;
    private static final int MOST_PLACES = 40;
    private static final int MOST_PARTS = 10;
    private static final int MOST_ROWS = 8;
    private static final int MOST_DAYS = 99;
    private static final int MOST_WEIGHT = 1000;
    private static final int MOST_PART_HANDS = 9;
    private static final int MOST_SHARE = 99;
    private static final int MOST_CAUSES = 4;
    private static final int MOST_CAUSE_SHARE = 12;
    private static final int MOST_HOUSE_HANDS = 30;
    private static final int MOST_WAY_WEIGHT = 20000;
    private static final int MOST_CAME_DAY = 9999;
    private static final int MOST_RISK_SHARE = 1000000;
    private static final int MOST_SUM_LOWER = 1000000;
    private static final int MOST_TELLINGS = 1000;
    private static final int MOST_TELLING_SHARE = 1000;
    private static final int STEPS = 10;
    private static final long MOST_SAID = 1L << 40;
    /* All parts one behind the other, each with its dearest row and late by every cause. */
    private static final int LAST_DAY = MOST_PARTS * MOST_DAYS * (1 + MOST_CAUSES);
    /* Far behind every day on which a part can end. */
    private static final int NEVER = 1000000;
    /* Euclid's rule needs fewer than a hundred rounds for any two longs. */
    private static final int MOST_ROUNDS = 200;

    private int state = WELL;
    private final Fraction fraction = new Fraction();
    private final Fraction rest = new Fraction();
    private final Fraction least = new Fraction();
    private final Tray[] trays = new Tray[MOST_TRAYS];
    private final Table table = new Table();
    private final Ways weighed = new Ways();
    private final Work work = weighed.work;
    private final Tellings tellings = new Tellings();

    public EndTeller() {
        for (int k = 0; k < MOST_TRAYS; k++) {
            trays[k] = new Tray();
        }
    }

    public int status() {
        return state;
    }

    // ---- TRAYS

    public boolean tray(int tray, int sort, int many) {
        if (!isTray(tray) || sort < 0 || sort >= MOST_SORTS) {
            return refuse(NO_TRAY);
        }
        if (many > MOST_PLACES) {
            return refuse(NO_NUMBER);
        }
        if (many < 0) {
            return refuse(BELOW_NOUGHT);
        }
        trays[tray].layOut(sort, many);
        return well();
    }

    public boolean write(int tray, int place, long v) {
        int trouble = placeTrouble(tray, place);
        if (trouble != WELL) {
            return refuse(trouble);
        }
        trays[tray].put(place, v);
        return well();
    }

    public long read(int tray, int place) {
        int trouble = placeTrouble(tray, place);
        if (trouble != WELL) {
            return refuseNumber(trouble);
        }
        state = WELL;
        return trays[tray].numberAt(place);
    }

    public boolean pour(int tray, int i, int to, int j, int many) {
        if (!isTray(tray) || !isTray(to)) {
            return refuse(NO_TRAY);
        }
        Tray source = trays[tray];
        Tray target = trays[to];
        if (source.isMissing() || target.isMissing()) {
            return refuse(MISSING);
        }
        if (source.sort != target.sort) {
            return refuse(UNLIKE);
        }
        if (many < 0) {
            return refuse(BELOW_NOUGHT);
        }
        if (!source.hasRun(i, many) || !target.hasRun(j, many)) {
            return refuse(NO_PLACE);
        }
        System.arraycopy(source.cells, i, target.cells, j, many);
        return well();
    }

    // ---- PARTS and CAUSES

    public int part(int tray, int rows, int hands) {
        if (!isTray(tray)) {
            return refuseNumber(NO_TRAY);
        }
        Tray source = trays[tray];
        if (source.isMissing()) {
            return refuseNumber(MISSING);
        }
        if (rows < 1 || rows > MOST_ROWS || !arePartHands(hands)) {
            return refuseNumber(NO_NUMBER);
        }
        if (!source.hasRun(0, 2 * rows)) {
            return refuseNumber(NO_PLACE);
        }
        if (!source.holdsRows(rows)) {
            return refuseNumber(NO_NUMBER);
        }
        table.empty();
        for (int k = 0; k < rows; k++) {
            table.add((int) source.numberAt(2 * k), source.numberAt(2 * k + 1));
        }
        return addPart(hands);
    }

    public int fixed(int days, int hands) {
        if (days < 0 || days > MOST_DAYS || !arePartHands(hands)) {
            return refuseNumber(NO_NUMBER);
        }
        table.empty();
        table.add(days, 1);
        return addPart(hands);
    }

    public int either(int a, int b, int v, int w, int hands) {
        if (!work.hasPart(a) || !work.hasPart(b)) {
            return refuseNumber(NO_SUCH);
        }
        if (v < 1 || v > MOST_SHARE || w < 1 || w > MOST_SHARE || !arePartHands(hands)) {
            return refuseNumber(NO_NUMBER);
        }
        Part first = work.parts[a];
        Part second = work.parts[b];
        table.empty();
        table.addOnce(first, (long) v * second.allWeights);
        table.addOnce(second, (long) w * first.allWeights);
        return addPart(hands);
    }

    public int again(int a, int n, int d, int hands) {
        if (!work.hasPart(a)) {
            return refuseNumber(NO_SUCH);
        }
        if (n < 1 || n >= d || d > MOST_SHARE || !arePartHands(hands)) {
            return refuseNumber(NO_NUMBER);
        }
        Part one = work.parts[a];
        table.empty();
        table.addOnce(one, (long) (d - n) * one.allWeights);
        table.addTwice(one, n);
        return addPart(hands);
    }

    public boolean need(int part, int other, boolean on) {
        if (!work.hasPart(part) || !work.hasPart(other)) {
            return refuse(NO_SUCH);
        }
        if (other >= part) {
            return refuse(NO_NUMBER);
        }
        work.parts[part].setNeed(other, on);
        return changed();
    }

    public int cause(int n, int d) {
        if (n < 1 || n >= d || d > MOST_CAUSE_SHARE) {
            return refuseNumber(NO_NUMBER);
        }
        if (work.causes >= MOST_CAUSES) {
            return refuseNumber(TOO_MANY);
        }
        work.addCause(n, d);
        changed();
        return work.causes - 1;
    }

    public boolean late(int part, int cause, int days) {
        if (!work.hasPart(part) || cause < 0 || cause >= work.causes) {
            return refuse(NO_SUCH);
        }
        if (days < 0 || days > MOST_DAYS) {
            return refuse(NO_NUMBER);
        }
        work.parts[part].lateBy[cause] = days;
        return changed();
    }

    public boolean hands(int many) {
        if (many < 1 || many > MOST_HOUSE_HANDS) {
            return refuse(NO_NUMBER);
        }
        work.house = many;
        return changed();
    }

    public boolean clear() {
        work.forget();
        return changed();
    }

    public int told(int part, int what) {
        if (!work.hasPart(part)) {
            return refuseNumber(NO_SUCH);
        }
        if (what < 0 || what > 4) {
            return refuseNumber(NO_NUMBER);
        }
        state = WELL;
        Part asked = work.parts[part];
        switch (what) {
            case 0:
                return asked.rows;
            case 1:
                return asked.allWeights;
            case 2:
                return asked.holds;
            case 3:
                return Integer.bitCount(asked.needs);
            default:
                return asked.cameOn;
        }
    }

    public int row(int part, int k, int what) {
        if (!work.hasPart(part) || k < 0 || k >= work.parts[part].rows) {
            return refuseNumber(NO_SUCH);
        }
        if (what < 0 || what > 1) {
            return refuseNumber(NO_NUMBER);
        }
        state = WELL;
        Part asked = work.parts[part];
        return what == 0 ? asked.days[k] : asked.weights[k];
    }

    // ---- chances

    public long upper() {
        return fraction.above;
    }

    public long lower() {
        return fraction.below;
    }

    public int ways() {
        if (work.isGreat()) {
            return refuseNumber(GREAT);
        }
        state = WELL;
        return work.countWays();
    }

    public boolean ends(int day) {
        int trouble = day < 0 ? NO_NUMBER : chanceTrouble();
        if (trouble != WELL) {
            return refuse(trouble);
        }
        return tell(weighed.weightEndingBy(day), weighed.left);
    }

    public boolean done(int part, int day) {
        if (!work.hasPart(part)) {
            return refuse(NO_SUCH);
        }
        int trouble = day < 0 ? NO_NUMBER : chanceTrouble();
        if (trouble != WELL) {
            return refuse(trouble);
        }
        return tell(weighed.weightWithPartBy(part, day), weighed.left);
    }

    public int promise(int n, int d) {
        boolean isShare = n >= 0 && n <= d && d >= 1 && d <= MOST_RISK_SHARE;
        int trouble = isShare ? chanceTrouble() : NO_NUMBER;
        if (trouble != WELL) {
            return refuseNumber(trouble);
        }
        state = WELL;
        return weighed.leastDayAtRisk(n, d);
    }

    public boolean mean() {
        int trouble = chanceTrouble();
        if (trouble != WELL) {
            return refuse(trouble);
        }
        return tell(weighed.sumOfEnds(), weighed.left);
    }

    public boolean spread() {
        int trouble = chanceTrouble();
        if (trouble != WELL) {
            return refuse(trouble);
        }
        weighed.gatherAll();
        return tell(weighed.sumApart(), weighed.left * weighed.left);
    }

    public boolean sure(int part) {
        int trouble = work.hasPart(part) ? chanceTrouble() : NO_SUCH;
        if (trouble != WELL) {
            return refuse(trouble);
        }
        if (!weighed.sumRest(part, rest)) {
            return refuse(GREAT);
        }
        return tell(rest.above, rest.below * weighed.left);
    }

    public int surest() {
        int trouble = work.count > 0 ? chanceTrouble() : NO_SUCH;
        if (trouble != WELL) {
            return refuseNumber(trouble);
        }
        int best = NONE;
        for (int p = 0; p < work.count; p++) {
            if (!weighed.sumRest(p, rest)) {
                return refuseNumber(GREAT);
            }
            if (best == NONE || rest.isLessThan(least)) {
                best = p;
                least.become(rest.above, rest.below);
            }
        }
        state = WELL;
        return best;
    }

    public boolean moves(int part) {
        int trouble = work.hasPart(part) ? chanceTrouble() : NO_SUCH;
        if (trouble != WELL) {
            return refuse(trouble);
        }
        return tell(weighed.weightMovedBy(part), weighed.left);
    }

    // ---- what CAME

    public boolean end(int part, int day) {
        if (!work.hasPart(part)) {
            return refuse(NO_SUCH);
        }
        if (!isCameDay(day)) {
            return refuse(NO_NUMBER);
        }
        work.parts[part].cameOn = day;
        return changed();
    }

    public boolean today(int day) {
        if (!isCameDay(day)) {
            return refuse(NO_NUMBER);
        }
        work.dayItIs = day;
        return changed();
    }

    // ---- tellings

    public boolean telling(int n, int d, boolean came) {
        if (n < 0 || n > d || d < 1 || d > MOST_TELLING_SHARE) {
            return refuse(NO_NUMBER);
        }
        if (tellings.count >= MOST_TELLINGS) {
            return refuse(TOO_MANY);
        }
        tellings.add(n, d, came);
        return well();
    }

    public int judged(int step, int what) {
        if (!isStep(step)) {
            return refuseNumber(NO_SUCH);
        }
        if (what < 0 || what > 1) {
            return refuseNumber(NO_NUMBER);
        }
        state = WELL;
        return what == 0 ? tellings.many[step] : tellings.cameTrue[step];
    }

    public boolean said(int step) {
        if (!isStep(step)) {
            return refuse(NO_SUCH);
        }
        int many = tellings.many[step];
        if (many == 0) {
            return refuse(NO_NUMBER);
        }
        if (tellings.passed[step]) {
            return refuse(GREAT);
        }
        Fraction sum = tellings.sums[step];
        return tell(sum.above, sum.below * many);
    }

    // ---- what several calls share

    private boolean refuse(int trouble) {
        state = trouble;
        return false;
    }

    private int refuseNumber(int trouble) {
        state = trouble;
        return NONE;
    }

    private boolean well() {
        state = WELL;
        return true;
    }

    /* Every call that alters the work goes through here, so that no old ways are told. */
    private boolean changed() {
        weighed.stale = true;
        return well();
    }

    private boolean tell(long above, long below) {
        fraction.become(above, below);
        return well();
    }

    private int addPart(int hands) {
        table.makeLess();
        if (work.count >= MOST_PARTS || !table.fits()) {
            return refuseNumber(TOO_MANY);
        }
        work.addPart(table, hands);
        changed();
        return work.count - 1;
    }

    private int placeTrouble(int tray, int place) {
        if (!isTray(tray)) {
            return NO_TRAY;
        }
        if (trays[tray].isMissing()) {
            return MISSING;
        }
        return trays[tray].has(place) ? WELL : NO_PLACE;
    }

    private int chanceTrouble() {
        if (work.isStuck()) {
            return STUCK;
        }
        if (work.isGreat()) {
            return GREAT;
        }
        weighed.refresh();
        return weighed.left > 0 ? WELL : NO_WAYS;
    }

    private static boolean isTray(int tray) {
        return tray >= 0 && tray < MOST_TRAYS;
    }

    private static boolean isStep(int step) {
        return step >= 0 && step < STEPS;
    }

    private static boolean arePartHands(int hands) {
        return hands >= 0 && hands <= MOST_PART_HANDS;
    }

    private static boolean isCameDay(int day) {
        return day == NONE || (day >= 0 && day <= MOST_CAME_DAY);
    }

    private static long commonDivisor(long a, long b) {
        long greater = a;
        long lesser = b;
        for (int k = 0; k < MOST_ROUNDS && lesser != 0; k++) {
            long over = greater % lesser;
            greater = lesser;
            lesser = over;
        }
        return greater;
    }

    /** A number of 0 or more, held without a common divisor. */
    private static final class Fraction {
        long above = 0;
        long below = 1;

        void become(long newAbove, long newBelow) {
            long divisor = commonDivisor(newAbove, newBelow);
            if (divisor > 0) {
                above = newAbove / divisor;
                below = newBelow / divisor;
            }
        }

        void add(long otherAbove, long otherBelow) {
            become(above * otherBelow + otherAbove * below, below * otherBelow);
        }

        /* The whole numbers are held apart first: the products of the rest then stay far within a long. */
        boolean isLessThan(Fraction other) {
            if (below < 1 || other.below < 1) {
                return false;
            }
            long whole = above / below;
            long otherWhole = other.above / other.below;
            if (whole != otherWhole) {
                return whole < otherWhole;
            }
            return (above % below) * other.below < (other.above % other.below) * below;
        }
    }

    private static final class Tray {
        final long[] cells = new long[MOST_PLACES];
        int sort = NONE;
        int length = 0;

        boolean isMissing() {
            return sort == NONE;
        }

        void layOut(int newSort, int many) {
            Arrays.fill(cells, 0L);
            sort = newSort;
            length = many;
        }

        boolean has(int place) {
            return place >= 0 && place < length;
        }

        boolean hasRun(int from, int many) {
            return from >= 0 && many >= 0 && from <= length - many;
        }

        long numberAt(int place) {
            return has(place) ? cells[place] : 0L;
        }

        void put(int place, long v) {
            if (has(place)) {
                cells[place] = cut(v);
            }
        }

        long cut(long v) {
            switch (sort) {
                case 0:
                    return (byte) v;
                case 1:
                    return (short) v;
                case 2:
                    return (int) v;
                default:
                    return v;
            }
        }

        boolean holdsRows(int rows) {
            long before = -1;
            for (int k = 0; k < rows; k++) {
                long days = numberAt(2 * k);
                long weight = numberAt(2 * k + 1);
                if (days <= before || days > MOST_DAYS || weight < 1 || weight > MOST_WEIGHT) {
                    return false;
                }
                before = days;
            }
            return true;
        }
    }

    /** A table that is being made: a weight for each day, up to the sum of two parts' days. */
    private static final class Table {
        final long[] weightOf = new long[2 * MOST_DAYS + 1];

        void empty() {
            Arrays.fill(weightOf, 0L);
        }

        void add(int day, long weight) {
            if (day >= 0 && day < weightOf.length) {
                weightOf[day] += weight;
            }
        }

        void addOnce(Part part, long times) {
            for (int k = 0; k < part.rows; k++) {
                add(part.days[k], times * part.weights[k]);
            }
        }

        void addTwice(Part part, long times) {
            for (int k = 0; k < part.rows; k++) {
                for (int m = 0; m < part.rows; m++) {
                    add(part.days[k] + part.days[m], times * part.weights[k] * part.weights[m]);
                }
            }
        }

        void makeLess() {
            long divisor = 0;
            for (int day = 0; day < weightOf.length; day++) {
                divisor = commonDivisor(divisor, weightOf[day]);
            }
            if (divisor > 1) {
                for (int day = 0; day < weightOf.length; day++) {
                    weightOf[day] /= divisor;
                }
            }
        }

        boolean fits() {
            int rows = 0;
            for (int day = 0; day < weightOf.length; day++) {
                if (weightOf[day] != 0) {
                    rows++;
                    if (day > MOST_DAYS || weightOf[day] > MOST_WEIGHT) {
                        return false;
                    }
                }
            }
            return rows <= MOST_ROWS;
        }
    }

    private static final class Part {
        final int[] days = new int[MOST_ROWS];
        final int[] weights = new int[MOST_ROWS];
        final int[] lateBy = new int[MOST_CAUSES];
        int rows = 0;
        int allWeights = 0;
        int holds = 0;
        int needs = 0;
        int cameOn = NONE;

        /* Parts are used again after a clear: nothing of the earlier one may stay. */
        void become(Table table, int hands) {
            rows = 0;
            allWeights = 0;
            holds = hands;
            needs = 0;
            cameOn = NONE;
            Arrays.fill(lateBy, 0);
            for (int day = 0; day <= MOST_DAYS && rows < MOST_ROWS; day++) {
                if (table.weightOf[day] != 0) {
                    days[rows] = day;
                    weights[rows] = (int) table.weightOf[day];
                    allWeights += weights[rows];
                    rows++;
                }
            }
        }

        void setNeed(int other, boolean on) {
            if (on) {
                needs |= 1 << other;
            } else {
                needs &= ~(1 << other);
            }
        }
    }

    private static final class Work {
        final Part[] parts = new Part[MOST_PARTS];
        final int[] shares = new int[MOST_CAUSES];
        final int[] wholes = new int[MOST_CAUSES];
        int count = 0;
        int causes = 0;
        int house = MOST_HOUSE_HANDS;
        int dayItIs = NONE;

        Work() {
            for (int p = 0; p < MOST_PARTS; p++) {
                parts[p] = new Part();
            }
        }

        void forget() {
            count = 0;
            causes = 0;
            house = MOST_HOUSE_HANDS;
            dayItIs = NONE;
        }

        boolean hasPart(int part) {
            return part >= 0 && part < count;
        }

        void addPart(Table table, int hands) {
            if (count < MOST_PARTS) {
                parts[count].become(table, hands);
                count++;
            }
        }

        void addCause(int n, int d) {
            if (causes < MOST_CAUSES) {
                shares[causes] = n;
                wholes[causes] = d;
                causes++;
            }
        }

        boolean isStuck() {
            for (int p = 0; p < count; p++) {
                if (parts[p].holds > house) {
                    return true;
                }
            }
            return false;
        }

        /* Left as soon as it is known, so that the product never outgrows a long. */
        boolean isGreat() {
            long all = 1;
            for (int p = 0; p < count; p++) {
                all *= parts[p].allWeights;
                if (all > MOST_WAY_WEIGHT) {
                    return true;
                }
            }
            for (int c = 0; c < causes; c++) {
                all *= wholes[c];
            }
            return all > MOST_WAY_WEIGHT;
        }

        /* Asked only of a work that isn't great: there are no more ways than weights. */
        int countWays() {
            return rowsAhead(count) << causes;
        }

        int rowsAhead(int part) {
            int many = 1;
            for (int p = 0; p < part && p < count; p++) {
                many *= parts[p].rows;
            }
            return many;
        }
    }

    /** One way at a time, in an order in which the first part's rows turn fastest and causes last. */
    private static final class Stepper {
        final Work work = new Work();
        final int[] picked = new int[MOST_PARTS];
        final int[] lateness = new int[MOST_PARTS];
        final int[] endsOn = new int[MOST_PARTS];
        int comes = 0;
        int weightOfCauses = 1;
        int begun = 0;
        int ended = 0;
        int free = 0;

        void goToFirst() {
            Arrays.fill(picked, 0);
            comes = 0;
            takeCauses();
        }

        void goToNext() {
            for (int p = 0; p < work.count; p++) {
                picked[p]++;
                if (picked[p] < work.parts[p].rows) {
                    return;
                }
                picked[p] = 0;
            }
            comes++;
            takeCauses();
        }

        void takeCauses() {
            weightOfCauses = 1;
            Arrays.fill(lateness, 0);
            for (int c = 0; c < work.causes; c++) {
                if ((comes >> c & 1) == 0) {
                    weightOfCauses *= work.wholes[c] - work.shares[c];
                } else {
                    weightOfCauses *= work.shares[c];
                    for (int p = 0; p < work.count; p++) {
                        lateness[p] += work.parts[p].lateBy[c];
                    }
                }
            }
        }

        int product() {
            int weight = weightOfCauses;
            for (int p = 0; p < work.count; p++) {
                weight *= work.parts[p].weights[picked[p]];
            }
            return weight;
        }

        /* Nothing can begin between two ends, so days on which none ends are leapt over. */
        int stepThrough(int slower) {
            int day = 0;
            begun = 0;
            ended = 0;
            free = work.house;
            beginOn(day, slower);
            for (int k = 0; k < MOST_PARTS && begun != ended; k++) {
                day = endNext();
                beginOn(day, slower);
            }
            return day;
        }

        /*
         * One round is enough: a part that ends as it begins gives back no more hands than it took,
         * and only greater numbers can need it, so no lesser number is set free by it.
         */
        void beginOn(int day, int slower) {
            for (int p = 0; p < work.count; p++) {
                Part part = work.parts[p];
                int bit = 1 << p;
                if ((begun & bit) == 0 && (part.needs & ~ended) == 0 && part.holds <= free) {
                    int takes = part.days[picked[p]] + lateness[p] + (p == slower ? 1 : 0);
                    begun |= bit;
                    endsOn[p] = day + takes;
                    if (takes == 0) {
                        ended |= bit;
                    } else {
                        free -= part.holds;
                    }
                }
            }
        }

        /* All that end on the next day on which one does end there together, ahead of any that begin. */
        int endNext() {
            int goOn = begun & ~ended;
            int day = NEVER;
            int ending = 0;
            int freed = 0;
            for (int p = 0; p < work.count; p++) {
                if ((goOn >> p & 1) != 0 && endsOn[p] <= day) {
                    if (endsOn[p] < day) {
                        day = endsOn[p];
                        ending = 0;
                        freed = 0;
                    }
                    ending |= 1 << p;
                    freed += work.parts[p].holds;
                }
            }
            ended |= ending;
            free += freed;
            return day;
        }

        boolean agreesWithWhatCame() {
            for (int p = 0; p < work.count; p++) {
                int cameOn = work.parts[p].cameOn;
                if (cameOn != NONE) {
                    if (endsOn[p] != cameOn) {
                        return false;
                    }
                } else if (work.dayItIs != NONE && endsOn[p] <= work.dayItIs) {
                    return false;
                }
            }
            return true;
        }
    }

    /** All ways of a work with their ends, kept until the work is altered: stepping them is dear. */
    private static final class Ways {
        final Stepper way = new Stepper();
        final Work work = way.work;
        final int[] byDay = new int[LAST_DAY + 1];
        int[] endOf = new int[0];
        int[] weightOf = new int[0];
        boolean stale = true;
        int count = 0;
        int lastDay = 0;
        long left = 0;
        long gathered = 0;

        /* Asked only of a work that is neither stuck nor great. */
        void refresh() {
            if (!stale) {
                return;
            }
            count = work.countWays();
            makeRoom();
            left = 0;
            lastDay = 0;
            way.goToFirst();
            for (int k = 0; k < count; k++) {
                int day = way.stepThrough(NONE);
                int weight = way.product();
                boolean isLeft = way.agreesWithWhatCame();
                weightOf[k] = weight;
                endOf[k] = isLeft ? day : NONE;
                if (isLeft) {
                    left += weight;
                    lastDay = Math.max(lastDay, day);
                }
                way.goToNext();
            }
            stale = false;
        }

        /* Rows grow twofold, so that all that were ever made stay below twice the greatest. */
        void makeRoom() {
            if (endOf.length < count) {
                int room = Math.max(count, Math.min(2 * endOf.length, MOST_WAY_WEIGHT));
                endOf = new int[room];
                weightOf = new int[room];
            }
        }

        boolean isLeft(int k) {
            return endOf[k] != NONE;
        }

        long weightEndingBy(int day) {
            long weight = 0;
            for (int k = 0; k < count; k++) {
                if (isLeft(k) && endOf[k] <= day) {
                    weight += weightOf[k];
                }
            }
            return weight;
        }

        long sumOfEnds() {
            long sum = 0;
            for (int k = 0; k < count; k++) {
                if (isLeft(k)) {
                    sum += (long) weightOf[k] * endOf[k];
                }
            }
            return sum;
        }

        long weightWithPartBy(int part, int day) {
            long weight = 0;
            way.goToFirst();
            for (int k = 0; k < count; k++) {
                if (isLeft(k)) {
                    way.stepThrough(NONE);
                    if (way.endsOn[part] <= day) {
                        weight += weightOf[k];
                    }
                }
                way.goToNext();
            }
            return weight;
        }

        long weightMovedBy(int part) {
            long weight = 0;
            way.goToFirst();
            for (int k = 0; k < count; k++) {
                if (isLeft(k) && way.stepThrough(part) > endOf[k]) {
                    weight += weightOf[k];
                }
                way.goToNext();
            }
            return weight;
        }

        int leastDayAtRisk(int n, int d) {
            gatherAll();
            long behind = left;
            for (int day = 0; day < lastDay && day <= LAST_DAY; day++) {
                behind -= byDay[day];
                if (behind * d <= n * left) {
                    return day;
                }
            }
            return lastDay;
        }

        void gatherAll() {
            emptyDays();
            for (int k = 0; k < count; k++) {
                gather(k);
            }
        }

        /* The ways with one row of a part lie in runs, as long as there are choices ahead of it. */
        void gatherRow(int part, int row) {
            emptyDays();
            int run = work.rowsAhead(part);
            int leap = run * work.parts[part].rows;
            if (leap < 1) {
                return;
            }
            for (int from = row * run; from < count; from += leap) {
                for (int k = from; k < from + run && k < count; k++) {
                    gather(k);
                }
            }
        }

        /* No way that is left ends behind the last day, so nothing behind it is ever looked at. */
        void emptyDays() {
            gathered = 0;
            for (int day = 0; day <= lastDay && day <= LAST_DAY; day++) {
                byDay[day] = 0;
            }
        }

        void gather(int k) {
            int day = endOf[k];
            if (day >= 0 && day <= LAST_DAY) {
                byDay[day] += weightOf[k];
                gathered += weightOf[k];
            }
        }

        /*
         * Two ends are as far apart as there are nights between them, so each night counts the pairs
         * on its two sides; and each pair is met in both orders.
         */
        long sumApart() {
            long before = 0;
            long sum = 0;
            for (int day = 0; day < lastDay && day <= LAST_DAY; day++) {
                before += byDay[day];
                sum += before * (gathered - before);
            }
            return 2 * sum;
        }

        /* What is left of the spread with a part known, times the weight left; false if it is great. */
        boolean sumRest(int part, Fraction sum) {
            sum.become(0, 1);
            for (int k = 0; k < work.parts[part].rows; k++) {
                gatherRow(part, k);
                if (gathered > 0) {
                    sum.add(sumApart(), gathered);
                    if (sum.below > MOST_SUM_LOWER) {
                        return false;
                    }
                }
            }
            return true;
        }
    }

    /** Of tellings only what is asked is kept, step by step: how many, how many true, and their sum. */
    private static final class Tellings {
        final int[] many = new int[STEPS];
        final int[] cameTrue = new int[STEPS];
        final Fraction[] sums = new Fraction[STEPS];
        final boolean[] passed = new boolean[STEPS];
        int count = 0;

        Tellings() {
            for (int s = 0; s < STEPS; s++) {
                sums[s] = new Fraction();
            }
        }

        /* A sum that has once passed the bound stays as it is: one more share could outgrow a long. */
        void add(int n, int d, boolean came) {
            if (d < 1 || n < 0 || n > d) {
                return;
            }
            int step = Math.min(STEPS * n / d, STEPS - 1);
            count++;
            many[step]++;
            if (came) {
                cameTrue[step]++;
            }
            if (!passed[step]) {
                sums[step].add(n, d);
                passed[step] = sums[step].above > MOST_SAID || sums[step].below > MOST_SAID;
            }
        }
    }
}
