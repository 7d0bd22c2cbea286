import java.util.ArrayList;
import java.util.List;
import java.util.Map;
import java.util.Random;
import java.util.TreeMap;

/** Random runs of calls, the same ones each time, every answer held against the Model. */
public final class ModelRuns {
    private static final int RUNS = 2400;
    private static final int CALLS = 512;

    /** What the runs must have met at least once each: a call and its STATUS. */
    private static final String[] MUST_MEET = {
        "tray 0 1 5 6", "write 0 1 3 4", "read 0 1 3 4", "pour 0 1 3 4 6 11", "part 0 1 3 4 5 7", "fixed 0 5 7",
        "either 0 2 5 7", "again 0 2 5 7", "need 0 2 5", "cause 0 5 7", "late 0 2 5", "hands 0 5", "clear 0",
        "told 0 2 5", "row 0 2 5", "ways 0 9", "ends 0 5 8 9 10", "done 0 2 5 8 9 10", "promise 0 5 8 9 10",
        "mean 0 8 9 10", "spread 0 8 9 10", "sure 0 2 8 9 10", "surest 0 2 8 9 10", "moves 0 2 8 9 10", "end 0 2 5",
        "today 0 5", "telling 0 5", "judged 0 2 5", "said 0 2 5 9",
        "sure-by-its-sum 9", "surest-by-its-sum 9",
    };

    private static final String[] TRAY_CALLS = {"tray", "write", "write", "write", "read", "pour"};
    private static final String[] BUILD_CALLS = {"part", "part", "part", "fixed", "either", "again", "need", "need",
        "need", "need", "cause", "late", "late", "late", "hands"};
    private static final String[] ASK_CALLS = {"told", "row", "ways", "ends", "ends", "done", "done", "promise",
        "promise", "mean", "spread", "sure", "sure", "surest", "moves", "moves"};
    private static final String[] CAME_CALLS = {"end", "end", "end", "today", "today"};
    private static final String[] TELLING_CALLS = {"telling", "telling", "telling", "telling", "judged", "said"};

    private final Random random;
    private final int kind;
    private final EndTeller teller = new EndTeller();
    private final Model model = new Model();
    private final List<String> told = new ArrayList<>();
    private final Map<String, Integer> met;

    private ModelRuns(int seed, Map<String, Integer> met) {
        this.random = new Random(seed);
        this.kind = seed % 7;
        this.met = met;
    }

    public static void main(String[] args) {
        Map<String, Integer> met = new TreeMap<>();
        int wrong = 0;
        int runs = args.length > 0 ? Integer.parseInt(args[0]) : RUNS;
        for (int seed = 0; seed < runs && wrong < 5; seed++) {
            if (!new ModelRuns(seed, met).run()) {
                wrong++;
            }
        }
        for (String line : MUST_MEET) {
            String[] words = line.split(" ");
            for (int k = 1; k < words.length; k++) {
                String key = words[0] + " " + words[k];
                if (!met.containsKey(key)) {
                    wrong++;
                    System.out.println("ModelRuns: no run met " + key);
                }
            }
        }
        System.out.println("ModelRuns: " + runs + " runs, " + wrong + " not as due");
        if (args.length > 1) {
            System.out.println(met);
        }
        if (wrong != 0) {
            System.exit(1);
        }
    }

    /**
     * Three parts of unlike weights one behind the other, and what hangs on the second: if the third has ended on a
     * told day, its rows are bound to those of the others, and sums of rests have great lower numbers.
     */
    private boolean chain() {
        int most = pick(new int[] {30, 500, 1000});
        boolean good = same("clear") && layTable(2, 2, 1) && same("part", 0, 2, 0)
            && layTable(2, 2, 1) && same("part", 0, 2, 0) && layTable(3, most, 1) && same("part", 0, 3, 0)
            && same("fixed", between(0, 40), 0) && same("need", 1, 0, 1) && same("need", 2, 1, 1)
            && same("need", 3, 1, 1);
        int[] ends = model.endsOfSomeWay(random.nextInt(20000));
        return good && (ends == null || same("end", 2, ends[2]));
    }

    private int pick(int[] from) {
        return from[random.nextInt(from.length)];
    }

    private boolean run() {
        for (int k = 0; told.size() < CALLS; k++) {
            String name = pickCall(k);
            if (kind == 6 && k % 40 == 0 && !chain()) {
                return false;
            }
            long[] a = arguments(name);
            if (name.equals("part") && random.nextInt(4) != 0) {
                if (!layTable()) {
                    return false;
                }
            }
            if (!same(name, a)) {
                return false;
            }
        }
        return true;
    }

    private String pickCall(int k) {
        int turn = random.nextInt(100);
        if (kind == 5) {
            return pick(turn < 90 ? TELLING_CALLS : ASK_CALLS);
        }
        if (kind == 6) {
            return pick(turn < 15 ? CAME_CALLS : ASK_CALLS);
        }
        if (k % 128 == 127) {
            return "clear";
        }
        int build = k % 128 < 40 ? 65 : 10;
        return pick(turn < build ? BUILD_CALLS : turn < build + 5 ? TRAY_CALLS : turn < build + 8 ? TELLING_CALLS
            : turn < build + 16 ? CAME_CALLS : ASK_CALLS);
    }

    private String pick(String[] from) {
        return from[random.nextInt(from.length)];
    }

    private int between(int from, int to) {
        return from + random.nextInt(to - from + 1);
    }

    /** Mostly within the bounds, at times at them, just past them or far off. */
    private int near(int from, int to) {
        switch (random.nextInt(24)) {
            case 0: return from;
            case 1: return to;
            case 2: return random.nextInt(3) == 0 ? from - 1 : from;
            case 3: return random.nextInt(3) == 0 ? to + 1 : to;
            case 4: return random.nextInt(6) == 0 ? random.nextInt() : between(from, to);
            case 5: return random.nextInt(6) == 0 ? Integer.MAX_VALUE : between(from, to);
            case 6: return random.nextInt(6) == 0 ? Integer.MIN_VALUE : between(from, to);
            default: return between(from, to);
        }
    }

    private int days() {
        return kind == 3 ? near(0, 99) : near(0, kind == 0 ? 3 : 6);
    }

    private int hands() {
        return kind == 1 ? near(0, 9) : between(0, 3);
    }

    private int part() {
        return near(0, Math.max(0, model.manyParts() - 1));
    }

    /** A table of a few rows comes to tray 0, at times of many, at times of great weights. */
    private boolean layTable() {
        return layTable(kind == 3 ? between(1, 8) : between(1, 3), kind == 4 ? 40 : kind == 1 ? 1000 : 3,
            kind == 3 ? 14 : 2);
    }

    private boolean layTable(int rows, int most, int leap) {
        if (!same("tray", 0, 2, 2 * rows)) {
            return false;
        }
        int day = between(0, 2);
        for (int k = 0; k < rows; k++) {
            if (!same("write", 0, 2 * k, day) || !same("write", 0, 2 * k + 1, between(1, most))) {
                return false;
            }
            day += between(1, leap);
        }
        return true;
    }

    private long[] arguments(String name) {
        switch (name) {
            case "tray": return of(near(0, 3), near(0, 3), near(0, 40));
            case "write": return of(near(0, 3), near(0, 16), random.nextInt(5) == 0 ? random.nextLong() : near(0, 300));
            case "read": return of(near(0, 3), near(0, 16));
            case "pour": return of(near(0, 3), near(0, 12), near(0, 3), near(0, 12), near(0, 8));
            case "part": return of(near(0, 0), near(1, kind == 3 ? 8 : 3), hands());
            case "fixed": return of(days(), hands());
            case "either": return of(part(), part(), near(1, kind == 4 ? 99 : 2), near(1, kind == 4 ? 99 : 2), hands());
            case "again": return twoOf(part(), near(1, 2), near(2, kind == 1 ? 99 : 4), hands());
            case "need": return needArguments();
            case "cause": return of(near(1, 3), near(2, kind == 1 ? 12 : 4));
            case "late": return of(part(), near(0, Math.max(0, model.manyCauses() - 1)), days());
            case "hands": return of(kind == 2 ? between(1, 4) : near(1, 30));
            case "told": return of(part(), near(0, 4));
            case "row": return of(part(), near(0, 3), near(0, 1));
            case "ends": return of(near(0, 20));
            case "done": return of(part(), near(0, 12));
            case "promise": return of(near(0, 1000), near(1000, 1000000));
            case "sure": case "moves": return of(part());
            case "end": return endArguments();
            case "today": return of(todayArgument());
            case "telling": return tellingArguments();
            case "judged": return of(near(0, 9), near(0, 1));
            case "said": return of(near(0, 9));
            default: return of();
        }
    }

    private long[] needArguments() {
        int part = part();
        return of(part, near(0, Math.max(1, Math.min(part, 9)) - 1), between(0, 4) == 0 ? 0 : 1);
    }

    /** Mostly a day on which the part ends in a way that is left, so that ways stay left. */
    private long[] endArguments() {
        int part = part();
        int[] ends = model.endsOfSomeWay(random.nextInt(20000));
        if (random.nextInt(3) == 0) {
            return of(part, -1);
        }
        if (ends != null && part >= 0 && part < ends.length && random.nextInt(8) != 0) {
            return of(part, ends[part]);
        }
        return of(part, near(0, kind == 3 ? 60 : 9));
    }

    /** Mostly a day ahead of all ends of a way that is left. */
    private int todayArgument() {
        int[] ends = model.endsOfSomeWay(random.nextInt(20000));
        if (random.nextInt(2) == 0) {
            return -1;
        }
        if (ends != null && ends.length > 0 && random.nextInt(6) != 0) {
            int least = ends[0];
            for (int e : ends) {
                least = Math.min(least, e);
            }
            return Math.max(-1, least - 1);
        }
        return near(0, 6);
    }

    private long[] tellingArguments() {
        int d = near(1, told.size() % 3 == 0 ? 1000 : 24);
        return of(near(0, Math.max(1, Math.min(d, 1000))), d, between(0, 1));
    }

    private static long[] of(long... a) {
        return a;
    }

    private static long[] twoOf(long part, long n, long d, long hands) {
        return new long[] {part, n, d, hands};
    }

    private boolean same(String name, long... a) {
        StringBuilder call = new StringBuilder(name).append('(');
        for (int k = 0; k < a.length; k++) {
            call.append(k == 0 ? "" : ", ").append(a[k]);
        }
        told.add(call.append(')').toString());
        long want = model.call(name, a);
        long got = tellerCall(name, a);
        met.merge(name + " " + model.status(), 1, Integer::sum);
        if (name.equals("ways") && want > 0) {
            met.merge("ways of 4 to the power " + (31 - Integer.numberOfLeadingZeros((int) want)) / 2, 1, Integer::sum);
        }
        if (name.startsWith("sure") && model.status() == 9 && !model.isGreat()) {
            met.merge(name + "-by-its-sum 9", 1, Integer::sum);
        }
        String due = want + " status " + model.status() + " fraction " + model.upper() + "/" + model.lower();
        String answered = got + " status " + teller.status() + " fraction " + teller.upper() + "/" + teller.lower();
        if (due.equals(answered)) {
            return true;
        }
        System.out.println("ModelRuns: kind " + kind + ", " + told);
        System.out.println("ModelRuns: the last answered " + answered + ", due is " + due);
        return false;
    }

    private static long num(boolean b) {
        return b ? 1 : 0;
    }

    private long tellerCall(String name, long[] l) {
        int[] a = new int[l.length];
        for (int k = 0; k < l.length; k++) {
            a[k] = (int) l[k];
        }
        EndTeller x = teller;
        switch (name) {
            case "tray": return num(x.tray(a[0], a[1], a[2]));
            case "write": return num(x.write(a[0], a[1], l[2]));
            case "read": return x.read(a[0], a[1]);
            case "pour": return num(x.pour(a[0], a[1], a[2], a[3], a[4]));
            case "part": return x.part(a[0], a[1], a[2]);
            case "fixed": return x.fixed(a[0], a[1]);
            case "either": return x.either(a[0], a[1], a[2], a[3], a[4]);
            case "again": return x.again(a[0], a[1], a[2], a[3]);
            case "need": return num(x.need(a[0], a[1], a[2] == 1));
            case "cause": return x.cause(a[0], a[1]);
            case "late": return num(x.late(a[0], a[1], a[2]));
            case "hands": return num(x.hands(a[0]));
            case "clear": return num(x.clear());
            case "told": return x.told(a[0], a[1]);
            case "row": return x.row(a[0], a[1], a[2]);
            case "ways": return x.ways();
            case "ends": return num(x.ends(a[0]));
            case "done": return num(x.done(a[0], a[1]));
            case "promise": return x.promise(a[0], a[1]);
            case "mean": return num(x.mean());
            case "spread": return num(x.spread());
            case "sure": return num(x.sure(a[0]));
            case "surest": return x.surest();
            case "moves": return num(x.moves(a[0]));
            case "end": return num(x.end(a[0], a[1]));
            case "today": return num(x.today(a[0]));
            case "telling": return num(x.telling(a[0], a[1], a[2] == 1));
            case "judged": return x.judged(a[0], a[1]);
            case "said": return num(x.said(a[0]));
            default: throw new IllegalArgumentException(name);
        }
    }
}
