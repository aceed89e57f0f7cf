import java.util.ArrayList;
import java.util.List;
import java.util.Random;

/** The bend and the plans of random buildings, against trying all spans and another reckoning. */
public final class BendTest {
    private static final Due DUE = new Due("BendTest");
    private static final int[] TAKEN = {3, 1, 5, 1, 4};
    private static final int MOST_CALLS = 512;
    /** cheapest(), plan(), cost() and check(), and for twelve tasks planned() and tell() of each number. */
    private static final int CALLS_OF_COMPARE = 4 + 24 + 24;

    private final Random random;
    private final List<Job> jobs = new ArrayList<>();
    private BarnBench bench;
    /** What is answered behind the 512th call of an object is free. */
    private int used;
    private String name;

    private BendTest(long seed) {
        random = new Random(seed);
    }

    public static void main(String[] args) {
        for (int seed = 0; seed < 400; seed++) {
            BendTest test = new BendTest(seed);
            test.build("small " + seed, 1 + seed % 5, 4, 6);
            test.compareWithTrial();
        }
        for (int seed = 0; seed < 60; seed++) {
            BendTest test = new BendTest(1000 + seed);
            test.build("parts " + seed, 1 + seed % 3, 3, 6);
            test.compareParts();
        }
        for (int seed = 0; seed < 150; seed++) {
            BendTest test = new BendTest(2000 + seed);
            int most = seed % 3 == 0 ? 9 : seed % 3 == 1 ? 1000 : 100000;
            test.build("large " + seed, 8 + seed % 5, seed % 2 == 0 ? 12 : 60, most);
            test.compareWithReckoning();
        }
        for (int seed = 0; seed < 300; seed++) {
            BendTest test = new BendTest(3000 + seed);
            test.build("cheap " + seed, 5 + seed % 8, 2 + seed % 6, 1 + seed % 3);
            test.compareWithReckoning();
        }
        for (int seed = 0; seed < 200; seed++) {
            BendTest test = new BendTest(4000 + seed);
            test.buildBridge("bridge " + seed, 2 + seed % 4, 1 + seed % 4);
            test.compareWithTrial();
        }
        flowTakenBack();
        manyBends();
        DUE.end();
    }

    /**
     * Bridges in which flow is taken back as far as it went at one span, and not further: at an easy span
     * that is full, at a middle one that is not and one that is, and at a hard one.
     */
    private static void flowTakenBack() {
        bridge("back at a full easy span",
            new long[][] {{5, 1, 1}, {3, 0, 2}, {2, 1, 4, 3, 2}, {5, 0, 1}, {1, 0, 1}});
        bridge("back at a middle span",
            new long[][] {{4, 0, 3, 3, 1}, {3, 0, 2, 2, 1}, {3, 3, 0, 1, 1}, {3, 0, 2}, {2, 0, 1, 1, 3}});
        bridge("back at a full middle span",
            new long[][] {{4, 0, 4}, {3, 0, 3, 1, 3}, {6, 0, 3, 3, 2}, {6, 3, 3}, {5, 0, 1, 3, 2}});
        bridge("back at a hard span",
            new long[][] {{8, 0, 5, 1, 4}, {2, 0, 5}, {6, 2, 0}, {4, 0, 4, 0, 0}, {2, 0, 0, 0, 1}});
    }

    private static void bridge(String name, long[][] numbers) {
        BendTest test = new BendTest(0);
        test.name = name;
        for (long[] one : numbers) {
            test.jobs.add(new Job(one.length == 3 ? 0 : 2, one));
        }
        test.layBridge();
        test.compareWithTrial();
    }

    /** Tasks 0 and 1 come first, 2 and 3 last, and 4 lies between 0 and 3. */
    private void layBridge() {
        jobs.get(4).before = 1;
        jobs.get(2).before = 1;
        jobs.get(3).before = 1 << 4 | 1 << 1;
    }

    private void buildBridge(String newName, int mostSpan, int mostPrice) {
        name = newName;
        for (int i = 0; i < 5; i++) {
            int e = random.nextInt(mostSpan + 1);
            long[] all = {e, random.nextInt(e + 1), i == 4 ? 1 : random.nextInt(mostPrice + 1),
                random.nextInt(mostSpan + 1), random.nextInt(3)};
            int kind = random.nextInt(2) * 2;
            jobs.add(new Job(kind, java.util.Arrays.copyOf(all, TAKEN[kind])));
        }
        layBridge();
    }

    /** Far more bends than there are prices, as flow goes back and forth through the pairs. */
    private static void manyBends() {
        long[][] numbers = {{47, 3, 47616, 23, 85304}, {42, 1, 3415, 8, 6}, {56, 5, 93221, 19, 47937},
            {56, 6, 1861, 36, 8424}, {45, 2, 1, 42, 3}, {50, 5, 30310, 13, 29905}, {42, 1, 66478, 18, 43362},
            {53, 7, 82469, 32, 77915}, {58, 1, 2064, 21, 4908}, {55, 5, 19946, 17, 81585},
            {52, 0, 19667, 44, 58615}, {47, 0, 50374, 10, 1935}};
        int[] before = {0, 1, 0, 3, 15, 7, 41, 3, 189, 138, 783, 336};
        BendTest test = new BendTest(0);
        test.name = "many bends";
        for (int i = 0; i < numbers.length; i++) {
            Job job = new Job(2, numbers[i]);
            job.before = before[i];
            test.jobs.add(job);
        }
        DUE.due("many bends", test.on(1).bends(), 68);
        test.compareWithReckoning();
    }

    private void build(String newName, int count, int mostSpan, int mostPrice) {
        name = newName;
        for (int i = 0; i < count; i++) {
            int kind = random.nextInt(10) < 4 ? 2 : random.nextInt(5);
            int e = random.nextInt(mostSpan + 1);
            long[] all = {e, random.nextInt(e + 1), random.nextInt(mostPrice + 1),
                kind == 2 ? random.nextInt(mostSpan + 1) : random.nextInt(mostPrice + 1),
                random.nextInt(mostPrice + 1)};
            jobs.add(new Job(kind, java.util.Arrays.copyOf(all, TAKEN[kind])));
        }
        int chance = 1 + random.nextInt(5);
        int[] shuffled = new int[count];
        for (int i = 0; i < count; i++) {
            int j = random.nextInt(i + 1);
            shuffled[i] = shuffled[j];
            shuffled[j] = i;
        }
        for (int i = 0; i < count; i++) {
            for (int j = 0; j < i; j++) {
                if (random.nextInt(6) < chance) {
                    jobs.get(shuffled[i]).before |= 1 << shuffled[j];
                }
            }
        }
    }

    /** The object, or one made like it if that has not so many calls left. */
    private BarnBench on(int calls) {
        if (bench == null || used + calls > MOST_CALLS) {
            makeBench();
        }
        used += calls;
        return bench;
    }

    private void makeBench() {
        bench = new BarnBench();
        bench.board(0, 64, 5);
        used = 1;
        for (int i = 0; i < jobs.size(); i++) {
            Job job = jobs.get(i);
            long[] all = {job.e, job.h, job.p, job.extra, job.m};
            for (int k = 0; k < 5; k++) {
                bench.put(0, k, all[k]);
            }
            DUE.due(name + " task", bench.task(job.kind, 0, 0), i);
            used += 6;
        }
        for (int i = 0; i < jobs.size(); i++) {
            for (int j = 0; j < jobs.size(); j++) {
                if (jobs.get(i).follows(j)) {
                    bench.after(i, j);
                    used++;
                }
            }
        }
    }

    private int longest() {
        return on(1).longest(false);
    }

    private void compareWithTrial() {
        for (int t = -1; t <= longest() + 2; t++) {
            Trial trial = new Trial(jobs, t);
            Reckoning other = new Reckoning(jobs, t);
            DUE.due(name + " the two ways agree at " + t, trial.cost, other.isShort ? 0 : other.cost);
            compare(t, trial.isShort, trial.cost, trial.begins, trial.ends);
            if (!trial.isShort) {
                compareHurried(t, trial.begins, trial.ends);
            }
        }
        compareBends();
    }

    private void compareWithReckoning() {
        int least = on(1).longest(true);
        int most = longest();
        compare(least - 1, true, 0, null, null);
        for (int t = least; t <= most + 1; t += t < most - 40 && random.nextInt(3) > 0 ? 17 : 1) {
            Reckoning due = new Reckoning(jobs, t);
            compare(t, due.isShort, due.cost, due.begins, due.ends);
        }
        compareBends();
    }

    private void compare(int t, boolean isShort, long cost, int[] begins, int[] ends) {
        String at = name + " at " + t + ": ";
        BarnBench x = on(CALLS_OF_COMPARE);
        if (isShort) {
            DUE.due(at + "cheapest", x.cheapest(t, 1), -8);
            DUE.due(at + "plan", x.plan(t), -8);
            DUE.due(at + "slope", x.slope(t), -8);
            return;
        }
        DUE.due(at + "cheapest", x.cheapest(t, 1), cost);
        int length = 0;
        for (int end : ends) {
            length = Math.max(length, end);
        }
        DUE.due(at + "plan", x.plan(t), length);
        DUE.due(at + "cost", x.cost(), cost);
        long sum = 0;
        for (int i = 0; i < begins.length; i++) {
            DUE.due(at + "begin of " + i, x.planned(i, false), begins[i]);
            DUE.due(at + "span of " + i, x.planned(i, true), ends[i] - begins[i]);
            sum += jobs.get(i).cost(ends[i] - begins[i]);
            x.tell(begins[i]);
            x.tell(ends[i] - begins[i]);
        }
        DUE.due(at + "sum of costs", sum, cost);
        DUE.due(at + "check", x.check(t), 0);
    }

    private void compareHurried(int t, int[] begins, int[] ends) {
        Trial next = new Trial(jobs, t + 1);
        int lower = 0;
        int greater = 0;
        for (int i = 0; i < begins.length; i++) {
            int change = next.ends[i] - next.begins[i] - (ends[i] - begins[i]);
            lower |= change > 0 ? 1 << i : 0;
            greater |= change < 0 ? 1 << i : 0;
        }
        DUE.due(name + " hurried at " + t, on(1).hurried(t, false), lower);
        DUE.due(name + " eased at " + t, on(1).hurried(t, true), greater);
    }

    /** Slopes, bends and within() by what the document says of them, from cheapest() alone. */
    private void compareBends() {
        int least = on(1).longest(true);
        int most = longest();
        int found = 0;
        for (int t = least; t <= most + 1; t++) {
            long fall = on(1).cheapest(t, 1) - on(1).cheapest(t + 1, 1);
            long fallBefore = t > least ? on(1).cheapest(t - 1, 1) - on(1).cheapest(t, 1) : -1;
            DUE.due(name + " slope at " + t, on(1).slope(t), fall);
            if (fall != fallBefore) {
                DUE.due(name + " bend " + found, on(1).bend(found), t);
                found++;
            }
        }
        DUE.due(name + " bends", on(1).bends(), found);
        DUE.due(name + " bend behind all", on(1).bend(found), -7);
        long floor = on(1).cheapest(most, 1);
        long top = on(1).cheapest(least, 1);
        DUE.due(name + " within below all", on(1).within(floor - 1), -7);
        for (int tries = 0; tries < 20; tries++) {
            long sum = floor + (tries == 0 ? 0 : tries == 1 ? top - floor
                : (long) (random.nextDouble() * (top - floor + 3)));
            compareWithin(sum, least);
        }
    }

    private void compareWithin(long sum, int least) {
        int t = least;
        while (on(1).cheapest(t, 1) > sum) {
            t++;
        }
        long above = t;
        long divisor = 1;
        if (t > least) {
            divisor = on(1).slope(t - 1);
            above = t * divisor - (sum - on(1).cheapest(t, 1));
            long common = java.math.BigInteger.valueOf(above)
                .gcd(java.math.BigInteger.valueOf(divisor)).longValue();
            above /= common;
            divisor /= common;
        }
        BarnBench x = on(2);
        DUE.due(name + " within " + sum, x.within(sum), above);
        DUE.due(name + " told(1) of within " + sum, x.told(1), divisor);
    }

    /** Spans of d times the size make whole lengths of parts: d times CHEAPEST(n / d). */
    private void compareParts() {
        for (int d = 2; d <= 3; d++) {
            List<Job> larger = new ArrayList<>();
            for (Job job : jobs) {
                long[] all = {job.e * d, job.h * d, job.p, job.kind == 2 ? job.extra * d : job.extra, job.m};
                Job copy = new Job(job.kind, java.util.Arrays.copyOf(all, TAKEN[job.kind]));
                copy.before = job.before;
                larger.add(copy);
            }
            for (int n = -1; n <= d * longest() + 2; n++) {
                Trial trial = new Trial(larger, n);
                DUE.due(name + " cheapest(" + n + ", " + d + ")", on(1).cheapest(n, d),
                    trial.isShort ? -8 : trial.cost);
            }
        }
    }
}
