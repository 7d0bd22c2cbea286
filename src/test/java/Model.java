import java.math.BigInteger;
import java.util.ArrayList;
import java.util.List;
import java.util.Map;
import java.util.TreeMap;
import java.util.TreeSet;

/**
 * The document written a second time, as slow and plain as it can be: ways are listed anew for every question and
 * stepped day by day, numbers are without bound. Answers are longs (a boolean counts 1 or 0).
 */
final class Model {
    private static final class Refusal extends RuntimeException {
        private static final long serialVersionUID = 1L;
        final int status;

        Refusal(int status) {
            super("status " + status, null, false, false);
            this.status = status;
        }
    }

    private static final class PartOf {
        final TreeMap<Integer, Long> table = new TreeMap<>();
        final TreeSet<Integer> needs = new TreeSet<>();
        final int[] late = new int[4];
        int hands;
        Integer came = null;

        List<Integer> days() {
            return new ArrayList<>(table.keySet());
        }

        long all() {
            long sum = 0;
            for (long w : table.values()) {
                sum += w;
            }
            return sum;
        }
    }

    private static final class WayOf {
        int[] days;
        boolean[] comes;
        long weight;
        int[] ends;
        int last;
    }

    private final long[][] trays = new long[4][];
    private final int[] sorts = new int[4];
    private final List<PartOf> parts = new ArrayList<>();
    private final List<int[]> causes = new ArrayList<>();
    private final List<int[]> tellings = new ArrayList<>();
    private int house = 30;
    private Integer today = null;
    private BigInteger upper = BigInteger.ZERO;
    private BigInteger lower = BigInteger.ONE;
    private int status = 0;

    int status() {
        return status;
    }

    BigInteger upper() {
        return upper;
    }

    BigInteger lower() {
        return lower;
    }

    int manyParts() {
        return parts.size();
    }

    int manyCauses() {
        return causes.size();
    }

    boolean isGreat() {
        try {
            unlessGreat();
            return false;
        } catch (Refusal r) {
            return true;
        }
    }

    /** The days on which parts end in one of the ways that are left; null if there is none. */
    int[] endsOfSomeWay(int number) {
        try {
            List<WayOf> left = waysLeft();
            return left.get(number % left.size()).ends;
        } catch (Refusal r) {
            return null;
        }
    }

    /** A call by its name, with its arguments as longs. */
    long call(String name, long... a) {
        try {
            long answer = answer(name, a);
            status = 0;
            return answer;
        } catch (Refusal r) {
            status = r.status;
            return isTrueOrFalse(name) ? 0 : -1;
        }
    }

    static boolean isTrueOrFalse(String name) {
        return List.of("tray", "write", "pour", "need", "late", "hands", "clear", "ends", "done", "mean", "spread",
            "sure", "moves", "end", "today", "telling", "said").contains(name);
    }

    private long answer(String name, long[] a) {
        switch (name) {
            case "tray": return tray(a);
            case "write": return write(a);
            case "read": return read(a);
            case "pour": return pour(a);
            case "part": return part(a);
            case "fixed": return fixed(a);
            case "either": return either(a);
            case "again": return again(a);
            case "need": return need(a);
            case "cause": return cause(a);
            case "late": return late(a);
            case "hands": return hands(a);
            case "clear": return clear();
            case "told": return told(a);
            case "row": return row(a);
            case "ways": return ways();
            case "ends": return ends(a);
            case "done": return done(a);
            case "promise": return promise(a);
            case "mean": return mean();
            case "spread": return spread();
            case "sure": return sure(a);
            case "surest": return surest();
            case "moves": return moves(a);
            case "end": return end(a);
            case "today": return today(a);
            case "telling": return telling(a);
            case "judged": return judged(a);
            case "said": return said(a);
            default: throw new IllegalArgumentException(name);
        }
    }

    private static void unless(boolean fine, int status) {
        if (!fine) {
            throw new Refusal(status);
        }
    }

    private static boolean in(long v, long from, long to) {
        return from <= v && v <= to;
    }

    private long tray(long[] a) {
        unless(in(a[0], 0, 3) && in(a[1], 0, 3), 1);
        unless(a[2] <= 40, 5);
        unless(a[2] >= 0, 6);
        trays[(int) a[0]] = new long[(int) a[2]];
        sorts[(int) a[0]] = (int) a[1];
        return 1;
    }

    private long[] place(long tray, long place) {
        unless(in(tray, 0, 3), 1);
        unless(trays[(int) tray] != null, 3);
        unless(in(place, 0, trays[(int) tray].length - 1), 4);
        return trays[(int) tray];
    }

    private long write(long[] a) {
        long[] t = place(a[0], a[1]);
        int bits = 8 << sorts[(int) a[0]];
        BigInteger range = BigInteger.ONE.shiftLeft(bits);
        BigInteger cut = BigInteger.valueOf(a[2]).mod(range);
        if (cut.testBit(bits - 1)) {
            cut = cut.subtract(range);
        }
        t[(int) a[1]] = cut.longValueExact();
        return 1;
    }

    private long read(long[] a) {
        return place(a[0], a[1])[(int) a[1]];
    }

    private long pour(long[] a) {
        unless(in(a[0], 0, 3) && in(a[2], 0, 3), 1);
        long[] from = trays[(int) a[0]];
        long[] to = trays[(int) a[2]];
        unless(from != null && to != null, 3);
        unless(sorts[(int) a[0]] == sorts[(int) a[2]], 11);
        unless(a[4] >= 0, 6);
        unless(a[1] >= 0 && a[3] >= 0 && a[1] + a[4] <= from.length && a[3] + a[4] <= to.length, 4);
        long[] were = from.clone();
        for (int k = 0; k < a[4]; k++) {
            to[(int) a[3] + k] = were[(int) a[1] + k];
        }
        return 1;
    }

    private long addPart(TreeMap<Integer, BigInteger> weights, long hands) {
        BigInteger divisor = BigInteger.ZERO;
        for (BigInteger w : weights.values()) {
            divisor = divisor.gcd(w);
        }
        PartOf p = new PartOf();
        p.hands = (int) hands;
        unless(parts.size() < 10, 7);
        for (Map.Entry<Integer, BigInteger> e : weights.entrySet()) {
            if (e.getValue().signum() != 0) {
                BigInteger w = e.getValue().divide(divisor);
                unless(w.compareTo(BigInteger.valueOf(1000)) <= 0, 7);
                unless(e.getKey() <= 99, 7);
                p.table.put(e.getKey(), w.longValueExact());
            }
        }
        unless(p.table.size() <= 8, 7);
        parts.add(p);
        return parts.size() - 1;
    }

    private static void put(TreeMap<Integer, BigInteger> weights, int days, BigInteger weight) {
        weights.merge(days, weight, BigInteger::add);
    }

    private long part(long[] a) {
        unless(in(a[0], 0, 3), 1);
        long[] t = trays[(int) a[0]];
        unless(t != null, 3);
        unless(in(a[1], 1, 8) && in(a[2], 0, 9), 5);
        unless(t.length >= 2 * a[1], 4);
        TreeMap<Integer, BigInteger> weights = new TreeMap<>();
        for (int k = 0; k < a[1]; k++) {
            unless(in(t[2 * k], 0, 99) && in(t[2 * k + 1], 1, 1000), 5);
            unless(k == 0 || t[2 * k] > t[2 * k - 2], 5);
            put(weights, (int) t[2 * k], BigInteger.valueOf(t[2 * k + 1]));
        }
        return addPart(weights, a[2]);
    }

    private long fixed(long[] a) {
        unless(in(a[0], 0, 99) && in(a[1], 0, 9), 5);
        TreeMap<Integer, BigInteger> weights = new TreeMap<>();
        put(weights, (int) a[0], BigInteger.ONE);
        return addPart(weights, a[1]);
    }

    private PartOf partAt(long number) {
        unless(in(number, 0, parts.size() - 1), 2);
        return parts.get((int) number);
    }

    private long either(long[] a) {
        PartOf first = partAt(a[0]);
        PartOf second = partAt(a[1]);
        unless(in(a[2], 1, 99) && in(a[3], 1, 99) && in(a[4], 0, 9), 5);
        TreeMap<Integer, BigInteger> weights = new TreeMap<>();
        first.table.forEach((d, w) -> put(weights, d, BigInteger.valueOf(a[2] * w * second.all())));
        second.table.forEach((d, w) -> put(weights, d, BigInteger.valueOf(a[3] * w * first.all())));
        return addPart(weights, a[4]);
    }

    private long again(long[] a) {
        PartOf p = partAt(a[0]);
        unless(in(a[2], 2, 99) && in(a[1], 1, a[2] - 1) && in(a[3], 0, 9), 5);
        TreeMap<Integer, BigInteger> weights = new TreeMap<>();
        p.table.forEach((d, w) -> {
            put(weights, d, BigInteger.valueOf((a[2] - a[1]) * w * p.all()));
            p.table.forEach((e, v) -> put(weights, d + e, BigInteger.valueOf(a[1] * w * v)));
        });
        return addPart(weights, a[3]);
    }

    private long need(long[] a) {
        PartOf p = partAt(a[0]);
        partAt(a[1]);
        unless(a[1] < a[0], 5);
        if (a[2] == 1) {
            p.needs.add((int) a[1]);
        } else {
            p.needs.remove((int) a[1]);
        }
        return 1;
    }

    private long cause(long[] a) {
        unless(a[1] <= 12 && in(a[0], 1, a[1] - 1), 5);
        unless(causes.size() < 4, 7);
        causes.add(new int[] {(int) a[0], (int) a[1]});
        return causes.size() - 1;
    }

    private long late(long[] a) {
        PartOf p = partAt(a[0]);
        unless(in(a[1], 0, causes.size() - 1), 2);
        unless(in(a[2], 0, 99), 5);
        p.late[(int) a[1]] = (int) a[2];
        return 1;
    }

    private long hands(long[] a) {
        unless(in(a[0], 1, 30), 5);
        house = (int) a[0];
        return 1;
    }

    private long clear() {
        parts.clear();
        causes.clear();
        house = 30;
        today = null;
        return 1;
    }

    private long told(long[] a) {
        PartOf p = partAt(a[0]);
        unless(in(a[1], 0, 4), 5);
        long[] all = {p.table.size(), p.all(), p.hands, p.needs.size(), p.came == null ? -1 : p.came};
        return all[(int) a[1]];
    }

    private long row(long[] a) {
        PartOf p = partAt(a[0]);
        unless(in(a[1], 0, p.table.size() - 1), 2);
        unless(in(a[2], 0, 1), 5);
        int days = p.days().get((int) a[1]);
        return a[2] == 0 ? days : p.table.get(days);
    }

    private void unlessGreat() {
        BigInteger all = BigInteger.ONE;
        for (PartOf p : parts) {
            all = all.multiply(BigInteger.valueOf(p.all()));
        }
        for (int[] c : causes) {
            all = all.multiply(BigInteger.valueOf(c[1]));
        }
        unless(all.compareTo(BigInteger.valueOf(20000)) <= 0, 9);
    }

    private long ways() {
        unlessGreat();
        return allWays().size();
    }

    private List<WayOf> allWays() {
        List<WayOf> found = new ArrayList<>();
        addWays(found, new int[parts.size()], new boolean[causes.size()], 0, 1);
        return found;
    }

    private void addWays(List<WayOf> found, int[] days, boolean[] comes, int chosen, long weight) {
        if (chosen < parts.size()) {
            for (Map.Entry<Integer, Long> e : parts.get(chosen).table.entrySet()) {
                days[chosen] = e.getKey();
                addWays(found, days, comes, chosen + 1, weight * e.getValue());
            }
        } else if (chosen < parts.size() + causes.size()) {
            int c = chosen - parts.size();
            int[] share = causes.get(c);
            comes[c] = true;
            addWays(found, days, comes, chosen + 1, weight * share[0]);
            comes[c] = false;
            addWays(found, days, comes, chosen + 1, weight * (share[1] - share[0]));
        } else {
            WayOf way = new WayOf();
            way.days = days.clone();
            way.comes = comes.clone();
            way.weight = weight;
            found.add(way);
        }
    }

    private int[] takes(WayOf way) {
        int[] takes = new int[parts.size()];
        for (int p = 0; p < takes.length; p++) {
            takes[p] = way.days[p];
            for (int c = 0; c < causes.size(); c++) {
                takes[p] += way.comes[c] ? parts.get(p).late[c] : 0;
            }
        }
        return takes;
    }

    private int[] step(int[] takes) {
        int n = parts.size();
        int[] ends = new int[n];
        boolean[] begun = new boolean[n];
        boolean[] ended = new boolean[n];
        int over = 0;
        for (int day = 0; over < n; day++) {
            boolean some = day == 0;
            for (int p = 0; p < n; p++) {
                if (begun[p] && !ended[p] && ends[p] == day) {
                    ended[p] = true;
                    over++;
                    some = true;
                }
            }
            for (int p = 0; some && p < n; p++) {
                if (!begun[p] && mayBegin(p, begun, ended)) {
                    begun[p] = true;
                    ends[p] = day + takes[p];
                    if (takes[p] == 0) {
                        ended[p] = true;
                        over++;
                        p = -1; // others may begin on that day, lesser numbers too
                    }
                }
            }
        }
        return ends;
    }

    private boolean mayBegin(int part, boolean[] begun, boolean[] ended) {
        int free = house;
        for (int p = 0; p < parts.size(); p++) {
            free -= begun[p] && !ended[p] ? parts.get(p).hands : 0;
        }
        for (int need : parts.get(part).needs) {
            if (!ended[need]) {
                return false;
            }
        }
        return parts.get(part).hands <= free;
    }

    private static int last(int[] ends) {
        int last = 0;
        for (int e : ends) {
            last = Math.max(last, e);
        }
        return last;
    }

    private List<WayOf> waysLeft() {
        for (PartOf p : parts) {
            unless(p.hands <= house, 8);
        }
        unlessGreat();
        List<WayOf> left = new ArrayList<>();
        for (WayOf way : allWays()) {
            way.ends = step(takes(way));
            way.last = last(way.ends);
            boolean stays = true;
            for (int p = 0; p < parts.size(); p++) {
                Integer came = parts.get(p).came;
                stays &= came != null ? way.ends[p] == came : today == null || way.ends[p] > today;
            }
            if (stays) {
                left.add(way);
            }
        }
        unless(!left.isEmpty(), 10);
        return left;
    }

    private static BigInteger weight(List<WayOf> ways) {
        long sum = 0;
        for (WayOf way : ways) {
            sum += way.weight;
        }
        return BigInteger.valueOf(sum);
    }

    private long tell(BigInteger above, BigInteger below) {
        BigInteger g = above.gcd(below);
        upper = above.divide(g);
        lower = below.divide(g);
        return 1;
    }

    private long ends(long[] a) {
        unless(a[0] >= 0, 5);
        List<WayOf> left = waysLeft();
        List<WayOf> by = new ArrayList<>(left);
        by.removeIf(w -> w.last > a[0]);
        return tell(weight(by), weight(left));
    }

    private long done(long[] a) {
        partAt(a[0]);
        unless(a[1] >= 0, 5);
        List<WayOf> left = waysLeft();
        List<WayOf> by = new ArrayList<>(left);
        by.removeIf(w -> w.ends[(int) a[0]] > a[1]);
        return tell(weight(by), weight(left));
    }

    private long promise(long[] a) {
        unless(in(a[1], 1, 1000000) && in(a[0], 0, a[1]), 5);
        List<WayOf> left = waysLeft();
        for (int day = 0; ; day++) {
            int bound = day;
            List<WayOf> behind = new ArrayList<>(left);
            behind.removeIf(w -> w.last <= bound);
            BigInteger chance = weight(behind).multiply(BigInteger.valueOf(a[1]));
            if (chance.compareTo(weight(left).multiply(BigInteger.valueOf(a[0]))) <= 0) {
                return day;
            }
        }
    }

    private long mean() {
        List<WayOf> left = waysLeft();
        long sum = 0;
        for (WayOf way : left) {
            sum += way.weight * way.last;
        }
        return tell(BigInteger.valueOf(sum), weight(left));
    }

    /** How far all two of these ways are apart, by both weights. */
    private static BigInteger apart(List<WayOf> ways) {
        TreeMap<Integer, Long> byEnd = new TreeMap<>();
        for (WayOf way : ways) {
            byEnd.merge(way.last, way.weight, Long::sum);
        }
        BigInteger sum = BigInteger.ZERO;
        for (Map.Entry<Integer, Long> one : byEnd.entrySet()) {
            for (Map.Entry<Integer, Long> two : byEnd.entrySet()) {
                long far = Math.abs(one.getKey() - two.getKey());
                sum = sum.add(BigInteger.valueOf(one.getValue() * two.getValue() * far));
            }
        }
        return sum;
    }

    private long spread() {
        List<WayOf> left = waysLeft();
        return tell(apart(left), weight(left).pow(2));
    }

    private BigInteger[] rest(int part, List<WayOf> left) {
        BigInteger above = BigInteger.ZERO;
        BigInteger below = BigInteger.ONE;
        for (int days : parts.get(part).days()) {
            List<WayOf> with = new ArrayList<>(left);
            with.removeIf(w -> w.days[part] != days);
            if (!with.isEmpty()) {
                BigInteger all = weight(with);
                above = above.multiply(all).add(apart(with).multiply(below));
                below = below.multiply(all);
                BigInteger g = above.gcd(below);
                above = above.divide(g);
                below = below.divide(g);
                unless(below.compareTo(BigInteger.valueOf(1000000)) <= 0, 9);
            }
        }
        return new BigInteger[] {above, below.multiply(weight(left))};
    }

    private long sure(long[] a) {
        partAt(a[0]);
        BigInteger[] rest = rest((int) a[0], waysLeft());
        return tell(rest[0], rest[1]);
    }

    private long surest() {
        unless(!parts.isEmpty(), 2);
        List<WayOf> left = waysLeft();
        int best = 0;
        BigInteger[] least = rest(0, left);
        for (int p = 1; p < parts.size(); p++) {
            BigInteger[] rest = rest(p, left);
            if (rest[0].multiply(least[1]).compareTo(least[0].multiply(rest[1])) < 0) {
                best = p;
                least = rest;
            }
        }
        return best;
    }

    private long moves(long[] a) {
        partAt(a[0]);
        List<WayOf> left = waysLeft();
        List<WayOf> later = new ArrayList<>();
        for (WayOf way : left) {
            int[] takes = takes(way);
            takes[(int) a[0]]++;
            if (last(step(takes)) > way.last) {
                later.add(way);
            }
        }
        return tell(weight(later), weight(left));
    }

    private long end(long[] a) {
        PartOf p = partAt(a[0]);
        unless(in(a[1], -1, 9999), 5);
        p.came = a[1] == -1 ? null : (Integer) (int) a[1];
        return 1;
    }

    private long today(long[] a) {
        unless(in(a[0], -1, 9999), 5);
        today = a[0] == -1 ? null : (Integer) (int) a[0];
        return 1;
    }

    private long telling(long[] a) {
        unless(in(a[1], 1, 1000) && in(a[0], 0, a[1]), 5);
        unless(tellings.size() < 1000, 7);
        tellings.add(new int[] {(int) a[0], (int) a[1], (int) a[2]});
        return 1;
    }

    private List<int[]> tellingsOf(long step) {
        unless(in(step, 0, 9), 2);
        List<int[]> of = new ArrayList<>(tellings);
        of.removeIf(t -> (t[0] == t[1] ? 9 : 10 * t[0] / t[1]) != step);
        return of;
    }

    private long judged(long[] a) {
        List<int[]> of = tellingsOf(a[0]);
        unless(in(a[1], 0, 1), 5);
        if (a[1] == 1) {
            of.removeIf(t -> t[2] == 0);
        }
        return of.size();
    }

    private long said(long[] a) {
        List<int[]> of = tellingsOf(a[0]);
        unless(!of.isEmpty(), 5);
        BigInteger above = BigInteger.ZERO;
        BigInteger below = BigInteger.ONE;
        BigInteger bound = BigInteger.TWO.pow(40);
        for (int[] t : of) {
            BigInteger d = BigInteger.valueOf(t[1]);
            above = above.multiply(d).add(below.multiply(BigInteger.valueOf(t[0])));
            below = below.multiply(d);
            BigInteger g = above.gcd(below);
            above = above.divide(g);
            below = below.divide(g);
            unless(above.compareTo(bound) <= 0 && below.compareTo(bound) <= 0, 9);
        }
        return tell(above, below.multiply(BigInteger.valueOf(of.size())));
    }
}
