import java.util.Random;

/** Random runs of all calls, each answer against the model's; and that nothing is ever thrown. */
public final class ModelTest {
    private static final Due DUE = new Due("ModelTest");
    private static final int[] EXTREME = {Integer.MIN_VALUE, Integer.MIN_VALUE + 1, -1000000, -61, -1, 0, 1,
        2, 3, 4, 5, 11, 12, 13, 23, 24, 25, 31, 32, 60, 61, 64, 720, 721, 999, 1000, 1001, 100000, 100001,
        1 << 30, Integer.MAX_VALUE - 1, Integer.MAX_VALUE};

    private static final int MOST_LENGTH = 1000;
    private static final int MOST_CALLS = 512;
    /** plan(), check(), and for twelve tasks planned() and tell() of each number and of two more. */
    private static final int CALLS_OF_CHECK = 2 + 24 + 26;

    private final Random random;
    private final BarnBench bench = new BarnBench();
    private final Model model = new Model();
    private final int wild;
    private final int mostSpan;
    private final int mostPrice;
    private final int wanted;
    private String call;
    /** What is answered behind the 512th call of an object is free. */
    private int used = 0;

    private ModelTest(long seed) {
        random = new Random(seed);
        wild = seed % 10 == 9 ? 60 : seed % 2 == 0 ? 3 : 10;
        mostSpan = seed % 7 == 6 ? 60 : 6;
        mostPrice = seed % 3 == 0 ? 5 : seed % 3 == 1 ? 300 : 100000;
        wanted = 1 + random.nextInt(12);
    }

    public static void main(String[] args) {
        for (int seed = 0; seed < 400; seed++) {
            ModelTest test = new ModelTest(seed);
            if (!test.run(seed)) {
                break;
            }
        }
        DUE.end();
    }

    private boolean run(int seed) {
        boolean fine = true;
        for (int calls = 0; used < MOST_CALLS && fine; calls++) {
            int which = random.nextInt(1000);
            long[] answers;
            try {
                answers = calls < 60 && seed % 5 != 0 ? prepare(calls) : which < 420 ? build()
                    : which < 620 ? bend() : which < 800 ? plans() : rest();
            } catch (RuntimeException thrown) {
                System.out.println("run " + seed + ": " + call + " threw " + thrown);
                answers = new long[] {Long.MIN_VALUE, 0};
            }
            fine = DUE.due("run " + seed + ", call " + calls + ": " + call, answers[0], answers[1]);
        }
        return fine;
    }

    /** Boards with numbers for tasks, as else most tasks would be of zeros alone. */
    private long[] prepare(int calls) {
        int b = calls / 25;
        if (b > 1) {
            int at = calls % 8 * 5 % 20;
            return both("task(2, 1, " + at + ")", bench.task(2, 1, at), model.task(2, 1, at));
        }
        if (calls % 25 == 0) {
            return both("board(" + b + ", 64, 24)", bench.board(b, 64, 24), model.board(b, 64, 24));
        }
        int i = calls % 25 - 1;
        return putValue(b, i, valueFor(i));
    }

    /** A number that is mostly one from low to high, and now and then any. */
    private int some(int low, int high) {
        if (random.nextInt(100) < wild) {
            return random.nextInt(3) == 0 ? random.nextInt() : EXTREME[random.nextInt(EXTREME.length)];
        }
        return low + random.nextInt(high - low + 1);
    }

    private int someTask() {
        return some(0, Math.max(0, (int) model.told(2) - (random.nextInt(20) == 0 ? 0 : 1)));
    }

    private int someLength() {
        int least = (int) model.longest(true);
        return some(least - (random.nextInt(8) == 0 ? 1 : 0), (int) model.longest(false) + 2);
    }

    private long[] both(String name, long got, long want) {
        call = name;
        used++;
        return new long[] {got, want};
    }

    private long[] build() {
        int which = random.nextInt(100);
        if (which < 2) {
            int b = some(0, 3);
            int bits = random.nextInt(12) == 0 ? some(0, 64) : 32 << random.nextInt(2);
            int n = some(5, 24);
            return both("board(" + b + ", " + bits + ", " + n + ")", bench.board(b, bits, n),
                model.board(b, bits, n));
        }
        if (which < 35) {
            return put();
        }
        if (which < 40) {
            int b = some(0, 3);
            int c = random.nextBoolean() ? b : some(0, 3);
            int from = some(0, 12);
            int to = some(0, 12);
            int n = some(0, 8);
            return both("copy(" + b + ", " + from + ", " + c + ", " + to + ", " + n + ")",
                bench.copy(b, from, c, to, n), model.copy(b, from, c, to, n));
        }
        if (which < 65 && model.told(2) <= wanted) {
            int kind = random.nextInt(3) == 0 ? 2 : some(0, 4);
            int b = some(0, 3);
            int at = some(0, 4) * 5;
            return both("task(" + kind + ", " + b + ", " + at + ")", bench.task(kind, b, at),
                model.task(kind, b, at));
        }
        int task = someTask();
        int other = someTask();
        if (which < 94) {
            return both("after(" + task + ", " + other + ")", bench.after(task, other),
                model.after(task, other));
        }
        return both("away(" + task + ", " + other + ")", bench.away(task, other), model.away(task, other));
    }

    private long[] put() {
        int b = some(0, 3);
        int i = some(0, 23);
        long v = valueFor(Math.floorMod(i, 24));
        if (random.nextInt(100) < wild) {
            v = random.nextBoolean() ? random.nextLong() : v + (1L << 32);
        }
        return putValue(b, i, v);
    }

    private long[] putValue(int b, int i, long v) {
        return both("put(" + b + ", " + i + ", " + v + ")", bench.put(b, i, v), model.put(b, i, v));
    }

    /** Places on a board come in fives, each a task's numbers. */
    private long valueFor(int i) {
        switch (i % 5) {
            case 0:
                return mostSpan / 2 + random.nextInt(mostSpan / 2 + 1);
            case 1:
                return random.nextInt(mostSpan / 2 + 1);
            case 3:
                return random.nextInt(random.nextBoolean() ? mostSpan : mostPrice + 1);
            default:
                return random.nextInt(mostPrice + 1);
        }
    }

    private long[] bend() {
        int n = someLength();
        switch (random.nextInt(6)) {
            case 0: {
                int d = some(1, 7);
                int m = n < 2000 && n > -2000 && d > 0 && d < 1001 ? n * d + random.nextInt(d) : n;
                return both("cheapest(" + m + ", " + d + ")", bench.cheapest(m, d), model.cheapest(m, d));
            }
            case 1:
                return both("slope(" + n + ")", bench.slope(n), model.slope(n));
            case 2:
                return both("bends()", bench.bends(), model.bends());
            case 3: {
                int k = some(0, 4);
                return both("bend(" + k + ")", bench.bend(k), model.bend(k));
            }
            case 4: {
                long low = model.cheapest(MOST_LENGTH, 1);
                long sum = random.nextInt(100) < wild ? random.nextLong()
                    : low + random.nextInt(mostPrice * 8 + 1);
                return both("within(" + sum + ")", bench.within(sum), model.within(sum));
            }
            default: {
                boolean hard = random.nextBoolean();
                return both("longest(" + hard + ")", bench.longest(hard), model.longest(hard));
            }
        }
    }

    private long[] plans() {
        int n = someLength();
        int task = someTask();
        boolean flag = random.nextBoolean();
        switch (random.nextInt(7)) {
            case 0:
                return both("plan(" + n + ")", bench.plan(n), model.plan(n));
            case 1:
                return both("planned(" + task + ", " + flag + ")", bench.planned(task, flag),
                    model.planned(task, flag));
            case 2:
                return both("cost()", bench.cost(), model.cost());
            case 3:
                return both("hurried(" + n + ", " + flag + ")", bench.hurried(n, flag), model.hurried(n, flag));
            case 4: {
                int v = some(0, 9);
                return both("tell(" + v + ")", bench.tell(v), model.tell(v));
            }
            case 5:
                if (used + CALLS_OF_CHECK <= MOST_CALLS) {
                    return checkPlan(n);
                }
                return both("check(" + n + ")", bench.check(n), model.check(n));
            default:
                return both("check(" + n + ")", bench.check(n), model.check(n));
        }
    }

    /** Tells the plan of a length, at times with one number off or some more or fewer. */
    private long[] checkPlan(int n) {
        int count = (int) model.told(2);
        int got = bench.plan(n);
        long want = model.plan(n);
        if (got < 0 || got != want) {
            return both("plan(" + n + ")", got, want);
        }
        used++;
        int off = random.nextInt(3) == 0 ? random.nextInt(2 * count + 1) : -1;
        int more = random.nextInt(6) == 0 ? random.nextInt(5) - 2 : 0;
        for (int i = 0; i < 2 * count + more; i++) {
            int v = i < 2 * count ? (int) model.planned(i / 2, i % 2 == 1) : 0;
            if (i < 2 * count) {
                bench.planned(i / 2, i % 2 == 1);
                used++;
            }
            v += i == off ? some(-1, 2) : 0;
            bench.tell(v);
            model.tell(v);
            used++;
        }
        int longer = n + random.nextInt(2);
        return both("check(" + longer + ")", bench.check(longer), model.check(longer));
    }

    private long[] rest() {
        int task = someTask();
        int other = someTask();
        boolean flag = random.nextBoolean();
        switch (random.nextInt(14)) {
            case 0: {
                int kind = some(0, 4);
                return both("as(" + task + ", " + kind + ")", bench.as(task, kind), model.as(task, kind));
            }
            case 1: {
                int what = some(0, 5);
                return both("ask(" + task + ", " + what + ")", bench.ask(task, what), model.ask(task, what));
            }
            case 2:
                return both("follows(" + task + ", " + other + ")", bench.follows(task, other),
                    model.follows(task, other));
            case 3:
                return both("order(" + task + ")", bench.order(task), model.order(task));
            case 4:
            case 5: {
                int x = some(0, mostSpan);
                return both("span(" + task + ", " + x + ")", bench.span(task, x), model.span(task, x));
            }
            case 6:
                return both("length()", bench.length(), model.length());
            case 7:
                return both("early(" + task + ", " + flag + ")", bench.early(task, flag),
                    model.early(task, flag));
            case 8:
                return both("tight()", bench.tight(), model.tight());
            case 9:
                return both("toldCost()", bench.toldCost(), model.toldCost());
            case 10:
                return both("undo()", bench.undo(), model.undo());
            default:
                return whole();
        }
    }

    private long[] whole() {
        int which = random.nextInt(20);
        if (which == 0) {
            return both("keep()", bench.keep(), model.keep());
        }
        if (which == 1) {
            return both("back()", bench.back(), model.back());
        }
        int what = some(0, 6);
        return both("told(" + what + ")", bench.told(what), model.told(what));
    }
}
