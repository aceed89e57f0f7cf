/** Each promise of the document in turn: ordinary inputs, the edges that it names, wrong inputs. */
public final class PromiseTest {
    private static final int BEYOND = -1;
    private static final int MISSING = -2;
    private static final int SIZE = -3;
    private static final int KIND = -4;
    private static final int FULL = -5;
    private static final int RING = -6;
    private static final int NONE = -7;
    private static final int SHORT = -8;
    private static final int LEAST = Integer.MIN_VALUE;
    private static final int MOST = Integer.MAX_VALUE;

    private static final Due DUE = new Due("PromiseTest");
    private static int promise = 0;

    public static void main(String[] args) {
        promise = 1;
        newObject();
        boards();
        tasks();
        pairs();
        kinds();
        orders();
        toldSpans();
        bend();
        withins();
        plans();
        hurries();
        checks();
        undos();
        keeps();
        tolds();
        DUE.end();
    }

    private static void due(String what, long got, long want) {
        DUE.due("promise " + promise + ": " + what, got, want);
    }

    /** A new task of a kind with these numbers, by way of board 3. */
    private static int add(BarnBench x, int kind, long... numbers) {
        x.board(3, 64, numbers.length);
        for (int i = 0; i < numbers.length; i++) {
            x.put(3, i, numbers[i]);
        }
        return x.task(kind, 3, 0);
    }

    /** TASK 5 2 3, FIXED 5, STEPPED 5 2 3 2 4, in a row. */
    private static BarnBench row() {
        BarnBench x = new BarnBench();
        add(x, 0, 5, 2, 3);
        add(x, 1, 5);
        add(x, 2, 5, 2, 3, 2, 4);
        x.after(1, 0);
        x.after(2, 1);
        return x;
    }

    private static void newObject() {
        BarnBench x = new BarnBench();
        for (int b = 0; b < 4; b++) {
            due("put", x.put(b, 0, 1), MISSING);
        }
        due("cost", x.cost(), NONE);
        due("planned", x.planned(0, false), NONE);
        due("bits of a ring", x.told(0), 0);
        due("below", x.told(1), 1);
        for (int what = 2; what < 6; what++) {
            due("told(" + what + ")", x.told(what), 0);
        }
        due("findings", x.told(6), 6);
        due("length", x.length(), 0);
        due("longest", x.longest(false), 0);
        due("tight", x.tight(), 0);
        due("back", x.back(), NONE);
        due("undo", x.undo(), NONE);
    }

    private static void boards() {
        promise = 2;
        BarnBench x = new BarnBench();
        due("24 numbers", x.board(3, 64, 24), 24);
        due("no numbers", x.board(0, 32, 0), 0);
        due("a board of no numbers is there", x.put(0, 0, 1), BEYOND);
        due("no such board", x.board(4, 32, 1), BEYOND);
        due("no such board", x.board(-1, 32, 1), BEYOND);
        due("no such bits", x.board(0, 33, 1), BEYOND);
        due("bits ahead of n", x.board(0, 1, -1), BEYOND);
        due("n below 0", x.board(0, 64, -1), SIZE);
        due("n below 0", x.board(0, 0, LEAST), SIZE);
        due("n above 24", x.board(0, 64, 25), BEYOND);
        due("bits 0", x.board(3, 0, 7), 0);
        due("is missing", x.put(3, 0, 1), MISSING);
        x.board(1, 32, 3);
        x.put(1, 0, 9);
        x.board(1, 32, 3);
        x.task(1, 1, 0);
        due("all are 0 again", x.ask(0, 1), 0);

        promise = 3;
        x = new BarnBench();
        x.board(0, 32, 2);
        x.board(1, 64, 2);
        due("put", x.put(0, 1, (1L << 40) + 7), 0);
        x.task(1, 0, 1);
        due("lowest 32 bits", x.ask(0, 1), 7);
        x.put(1, 1, (1L << 40) + 7);
        due("64 bits", x.task(1, 1, 1), SIZE);
        due("no such number", x.put(0, 2, 0), BEYOND);
        due("no such number", x.put(0, -1, 0), BEYOND);
        due("no such board", x.put(4, 0, 0), BEYOND);
        due("no such board", x.put(LEAST, 0, 0), BEYOND);
        due("missing ahead of no such number", x.put(2, -1, 0), MISSING);

        promise = 4;
        copies();
    }

    private static void copies() {
        BarnBench x = new BarnBench();
        x.board(0, 32, 6);
        x.board(1, 32, 3);
        x.board(2, 64, 3);
        for (int i = 0; i < 6; i++) {
            x.put(0, i, i + 1);
        }
        due("copy", x.copy(0, 3, 1, 1, 2), 2);
        x.task(1, 1, 0);
        x.task(1, 1, 1);
        x.task(1, 1, 2);
        due("first", x.ask(0, 1), 0);
        due("second", x.ask(1, 1), 4);
        due("third", x.ask(2, 1), 5);
        due("onto itself, on", x.copy(0, 0, 0, 1, 5), 5);
        for (int i = 0; i < 6; i++) {
            due("on " + i, x.ask(x.task(1, 0, i), 1), i == 0 ? 1 : i);
        }
        due("none", x.copy(0, 6, 1, 3, 0), 0);
        due("no such board", x.copy(4, 0, 0, 0, 1), BEYOND);
        due("no such board", x.copy(0, 0, -1, 0, 1), BEYOND);
        due("one is missing", x.copy(0, 0, 3, 0, 1), MISSING);
        due("one is missing", x.copy(3, -1, 0, 0, 1), MISSING);
        due("other bits", x.copy(0, -1, 2, 0, 1), KIND);
        due("not so many", x.copy(0, 5, 1, 0, 2), BEYOND);
        due("not so many", x.copy(0, 0, 1, 2, 2), BEYOND);
        due("from", x.copy(0, -1, 1, 0, 1), BEYOND);
        due("to", x.copy(0, 0, 1, -1, 1), BEYOND);
        due("n", x.copy(0, 0, 1, 0, -1), BEYOND);
        due("far", x.copy(0, MOST, 1, MOST, MOST), BEYOND);
        due("far", x.copy(0, 1, 1, 1, MOST), BEYOND);
    }

    private static void tasks() {
        promise = 5;
        BarnBench x = new BarnBench();
        due("no such kind", x.task(5, 0, 0), BEYOND);
        due("no such kind", x.task(-1, 0, 0), BEYOND);
        due("no such board", x.task(0, 4, 0), BEYOND);
        due("missing", x.task(0, 0, -1), MISSING);
        int[] taken = {3, 1, 5, 1, 4};
        for (int kind = 0; kind < 5; kind++) {
            x.board(0, 64, taken[kind]);
            due("not so many of kind " + kind, x.task(kind, 0, 1), BEYOND);
            due("below 0", x.task(kind, 0, -1), BEYOND);
            due("far", x.task(kind, 0, MOST), BEYOND);
            due("as many of kind " + kind, x.task(kind, 0, 0), kind);
        }
        x = new BarnBench();
        due("e above", add(x, 1, 61), SIZE);
        due("e below", add(x, 3, -1), SIZE);
        due("h above e", add(x, 0, 5, 6, 1), SIZE);
        due("h below", add(x, 0, 5, -1, 1), SIZE);
        due("p above", add(x, 0, 5, 5, 100001), SIZE);
        due("p below", add(x, 0, 5, 5, -1), SIZE);
        due("k above", add(x, 2, 5, 5, 1, 61, 1), SIZE);
        due("k below", add(x, 2, 5, 5, 1, -1, 1), SIZE);
        due("m above", add(x, 2, 5, 5, 1, 60, 100001), SIZE);
        due("m below", add(x, 2, 5, 5, 1, 60, -1), SIZE);
        due("r above", add(x, 4, 5, 5, 1, 100001), SIZE);
        due("r below", add(x, 4, 5, 5, 1, -1), SIZE);
        due("e far", add(x, 0, 1L << 32, 0, 0), SIZE);
        due("all at most", add(x, 2, 60, 60, 100000, 60, 100000), 0);
        due("r is no span", add(x, 4, 60, 0, 100000, 100000), 1);
        for (int i = 2; i < 12; i++) {
            due("task " + i, add(x, 3, 1), i);
        }
        due("SIZE ahead of FULL", add(x, 3, 61), SIZE);
        due("full", add(x, 3, 1), FULL);
        due("tasks", x.told(2), 12);
    }

    private static void pairs() {
        promise = 6;
        BarnBench x = row();
        add(x, 0, 1, 1, 1);
        due("one", x.after(3, 0), 1);
        due("two", x.after(3, 1), 2);
        due("again", x.after(3, 1), 2);
        due("no such task", x.after(4, 0), BEYOND);
        due("no such task", x.after(0, -1), BEYOND);
        due("nothing of a ring yet", x.told(0), 0);
        due("itself", x.after(3, 3), RING);
        due("its bits", x.told(0), 8);
        due("a ring", x.after(0, 2), RING);
        due("its bits", x.told(0), 7);
        due("nothing came of it", x.follows(0, 2), 0);
        due("a ring of two", x.after(0, 1), RING);
        due("its bits", x.told(0), 3);
        x.after(2, 3);
        due("two ways round", x.after(0, 2), RING);
        due("their bits", x.told(0), 15);
        x.after(2, 0);
        due("others stay out", x.after(1, 3), RING);
        due("its bits", x.told(0), 10);

        promise = 7;
        due("away", x.away(3, 0), 1);
        due("it did not", x.away(3, 0), NONE);
        due("no such task", x.away(3, 4), BEYOND);
        due("no such task", x.away(LEAST, 0), BEYOND);
        due("by a row alone", x.away(2, 2), NONE);
        due("away", x.away(3, 1), 0);

        promise = 10;
        x = row();
        due("follows", x.follows(1, 0), 1);
        due("by a row", x.follows(2, 0), 2);
        x.after(2, 0);
        due("both ways", x.follows(2, 0), 1);
        due("not", x.follows(0, 2), 0);
        due("itself", x.follows(1, 1), 0);
        due("no such task", x.follows(3, 0), BEYOND);
        due("no such task", x.follows(0, 3), BEYOND);
    }

    private static void kinds() {
        promise = 8;
        BarnBench x = new BarnBench();
        add(x, 0, 5, 2, 3);
        add(x, 1, 6);
        add(x, 2, 7, 1, 2, 3, 4);
        add(x, 3, 8);
        add(x, 4, 9, 4, 5, 6);
        String[] under = {"0", "01", "02", "013", "04"};
        for (int task = 0; task < 5; task++) {
            for (int kind = 0; kind < 5; kind++) {
                boolean is = under[task].indexOf('0' + kind) >= 0;
                due("task " + task + " as " + kind, x.as(task, kind), is ? task : KIND);
            }
        }
        due("no such task", x.as(5, 0), BEYOND);
        due("no such task", x.as(-1, 0), BEYOND);
        due("no such kind", x.as(0, 5), BEYOND);
        due("no such kind", x.as(0, -1), BEYOND);

        promise = 9;
        int[][] all = {{0, 5, 2, 3, 0, 0}, {1, 6, 6, 0, 0, 0}, {2, 7, 1, 2, 3, 4}, {3, 8, 8, 0, 0, 0},
            {4, 9, 4, 5, 6, 0}};
        for (int task = 0; task < 5; task++) {
            for (int what = 0; what < 6; what++) {
                due("task " + task + " what " + what, x.ask(task, what), all[task][what]);
            }
        }
        due("no such task", x.ask(5, 0), BEYOND);
        due("no such task", x.ask(LEAST, 0), BEYOND);
        due("no such what", x.ask(0, 6), BEYOND);
        due("no such what", x.ask(0, -1), BEYOND);
    }

    private static void orders() {
        promise = 11;
        BarnBench x = new BarnBench();
        due("none", x.order(0), NONE);
        for (int i = 0; i < 5; i++) {
            add(x, 1, 1);
        }
        x.after(0, 3);
        x.after(1, 0);
        x.after(3, 4);
        int[] come = {2, 4, 3, 0, 1};
        for (int k = 0; k < 5; k++) {
            due("order " + k, x.order(k), come[k]);
        }
        due("none", x.order(5), NONE);
        due("none", x.order(-1), NONE);
        due("none", x.order(MOST), NONE);
    }

    private static void toldSpans() {
        promise = 12;
        BarnBench x = row();
        due("it was e", x.span(0, 3), 5);
        due("it was 3", x.span(0, 2), 3);
        due("below h", x.span(0, 1), BEYOND);
        due("above e", x.span(0, 6), BEYOND);
        due("it stays", x.span(0, 5), 2);
        due("no such task", x.span(3, 1), BEYOND);
        due("no such task", x.span(-1, 1), BEYOND);
        due("fixed", x.span(1, 4), BEYOND);
        due("fixed", x.span(1, 5), 5);

        promise = 13;
        due("in a row", x.length(), 15);
        x.span(0, 3);
        due("shorter", x.length(), 13);
        add(x, 1, 20);
        due("the longest of two", x.length(), 20);

        promise = 14;
        x = row();
        add(x, 1, 4);
        x.after(2, 3);
        due("early", x.early(2, false), 10);
        due("late", x.early(2, true), 10);
        due("early", x.early(3, false), 0);
        due("late", x.early(3, true), 6);
        add(x, 1, 3);
        due("late without followers", x.early(4, true), 12);
        x.span(0, 2);
        due("early", x.early(2, false), 7);
        due("late", x.early(3, true), 3);
        due("no such task", x.early(5, true), BEYOND);
        due("no such task", x.early(-1, false), BEYOND);

        promise = 15;
        due("tight", x.tight(), 7);
        x.span(2, 2);
        x.away(2, 1);
        due("tight", x.tight(), 3);

        promise = 16;
        due("hurried tasks", x.toldCost(), 3 * 3 + 3 * 3 + 4);
        add(x, 4, 10, 0, 5, 7);
        due("rented", x.toldCost(), 22 + 70);
        x.span(5, 4);
        due("rented, hurried", x.toldCost(), 22 + 30 + 28);
        x.span(2, 3);
        due("the step is not reached", x.toldCost(), 9 + 6 + 58);
    }

    private static void bend() {
        promise = 17;
        BarnBench x = row();
        due("easy", x.longest(false), 15);
        due("hard", x.longest(true), 9);
        x.span(0, 3);
        due("told spans do not matter", x.longest(false), 15);

        promise = 18;
        long[] costs = {22, 15, 12, 9, 6, 3, 0, 0};
        for (int t = 9; t <= 16; t++) {
            due("at " + t, x.cheapest(t, 1), costs[t - 9]);
            due("at " + t + " in 1000 parts", x.cheapest(1000 * t, 1000), 1000 * costs[t - 9]);
        }
        due("in parts", x.cheapest(19, 2), 37);
        due("in parts", x.cheapest(28, 3), 59);
        due("in parts", x.cheapest(31, 3), 42);
        due("far", x.cheapest(MOST, 1), 0);
        due("far", x.cheapest(MOST, 1000), 0);
        due("d", x.cheapest(9, 0), SIZE);
        due("d", x.cheapest(9000, 1001), SIZE);
        due("d ahead of n", x.cheapest(-9, -1), SIZE);
        due("short", x.cheapest(8, 1), SHORT);
        due("short by a part", x.cheapest(8999, 1000), SHORT);
        due("short", x.cheapest(LEAST, 1000), SHORT);
        due("short of 0", new BarnBench().cheapest(-1, 1000), SHORT);

        promise = 19;
        due("slope", x.slope(9), 7);
        due("slope", x.slope(10), 3);
        due("slope", x.slope(14), 3);
        due("slope", x.slope(15), 0);
        due("slope", x.slope(1000), 0);
        due("short", x.slope(8), SHORT);
        due("short", x.slope(LEAST), SHORT);
        due("beyond", x.slope(1001), BEYOND);
        due("beyond", x.slope(MOST), BEYOND);

        promise = 20;
        due("bends", x.bends(), 3);
        due("without tasks", new BarnBench().bends(), 1);

        promise = 21;
        due("SHORTEST", x.bend(0), 9);
        due("next", x.bend(1), 10);
        due("last", x.bend(2), 15);
        due("none", x.bend(3), NONE);
        due("none", x.bend(-1), NONE);
        due("none", x.bend(MOST), NONE);
        due("without tasks", new BarnBench().bend(0), 0);
        bendsOfKinds();
    }

    private static void bendsOfKinds() {
        BarnBench x = new BarnBench();
        add(x, 0, 9, 3, 0);
        due("free to hurry: one bend", x.bends(), 1);
        due("free to hurry: at", x.bend(0), 3);
        x = new BarnBench();
        add(x, 4, 9, 3, 5, 2);
        due("rent below price: bends", x.bends(), 2);
        due("rent below price: slope", x.slope(3), 3);
        due("rent below price: floor", x.cheapest(9, 1), 18);
        x = new BarnBench();
        add(x, 4, 9, 3, 5, 5);
        due("rent as price: one bend", x.bends(), 1);
        due("rent as price: cost", x.cheapest(3, 1), 45);
        x = new BarnBench();
        add(x, 4, 9, 3, 5, 8);
        due("rent above price: one bend", x.bends(), 1);
        due("rent above price: cost", x.cheapest(9, 1), 30 + 24);
        due("rent above price: plan", x.plan(9), 3);
        x = new BarnBench();
        add(x, 2, 9, 3, 0, 2, 4);
        due("steps alone: bends", x.bends(), 2);
        due("steps alone: bend", x.bend(1), 7);
        x = new BarnBench();
        add(x, 2, 9, 3, 2, 60, 4);
        due("a step that is never reached: slope", x.slope(3), 2);
    }

    private static void withins() {
        promise = 22;
        BarnBench x = row();
        due("at the floor", x.within(0), 15);
        due("whole", x.told(1), 1);
        due("in thirds", x.within(1), 44);
        due("in thirds", x.told(1), 3);
        due("none", x.within(-1), NONE);
        due("what was below stays", x.told(1), 3);
        due("a whole one", x.within(3), 14);
        due("a whole one", x.told(1), 1);
        due("in sevenths", x.within(16), 69);
        due("in sevenths", x.told(1), 7);
        due("all", x.within(22), 9);
        due("all", x.told(1), 1);
        due("more than all", x.within(Long.MAX_VALUE), 9);
        due("none", x.within(Long.MIN_VALUE), NONE);
        x = new BarnBench();
        add(x, 0, 9, 0, 6);
        due("lowest terms", x.within(4), 25);
        due("lowest terms", x.told(1), 3);
        due("at 0", x.within(54), 0);
        due("at 0", x.told(1), 1);
    }

    private static void plans() {
        promise = 23;
        BarnBench x = row();
        due("short", x.plan(8), SHORT);
        due("beyond", x.plan(1001), BEYOND);
        due("none is made", x.told(5), 0);
        due("plan", x.plan(12), 12);
        due("longer than needed", x.plan(1000), 15);
        due("hard", x.plan(9), 9);
        BarnBench free = new BarnBench();
        add(free, 0, 9, 3, 0);
        due("what is free to hurry is", free.plan(9), 3);

        promise = 24;
        due("begin", x.planned(2, false), 7);
        due("span", x.planned(2, true), 2);
        x.plan(13);
        due("the task ahead is hurried first", x.planned(0, true), 3);
        due("the one behind is not", x.planned(2, true), 5);
        due("a finding leaves the plan", x.plan(0), SHORT);
        due("begin", x.planned(1, false), 3);
        due("no such task", x.planned(3, false), BEYOND);
        due("no such task", x.planned(-1, true), BEYOND);
        x.span(0, 4);
        x.hurried(9, false);
        x.keep();
        due("it stays when spans are told", x.planned(0, true), 3);
        x.after(2, 0);
        due("none since after", x.planned(9, true), NONE);
        x.plan(13);
        x.after(2, 0);
        due("none since after again", x.planned(0, true), NONE);
        x.plan(13);
        due("a ring leaves the plan", x.after(0, 2), RING);
        due("a ring leaves the plan", x.told(5), 1);
        x.away(2, 0);
        due("none since away", x.planned(0, true), NONE);
        x.plan(13);
        add(x, 1, 1);
        due("none since a task came", x.planned(0, true), NONE);

        promise = 25;
        due("none", x.cost(), NONE);
        x.plan(12);
        due("cost", x.cost(), 9);
        x.plan(9);
        due("cost", x.cost(), 22);
    }

    private static void hurries() {
        promise = 26;
        BarnBench x = row();
        due("the second is hurried behind the first", x.hurried(11, false), 4);
        due("first", x.hurried(12, false), 1);
        due("nothing", x.hurried(15, false), 0);
        due("nothing", x.hurried(1000, true), 0);
        due("short", x.hurried(8, false), SHORT);
        due("beyond", x.hurried(1001, false), BEYOND);
        due("no plan is made", x.told(5), 0);
        easings();
    }

    /** At 3 hurrying 0 and 3 more serves all rows at once, and 2 need not be hurried any more. */
    private static void easings() {
        BarnBench x = new BarnBench();
        add(x, 0, 3, 0, 4);
        add(x, 0, 2, 2, 2);
        add(x, 0, 1, 0, 2);
        add(x, 0, 2, 0, 4);
        add(x, 0, 2, 0, 5);
        x.after(2, 0);
        x.after(3, 1);
        x.after(3, 2);
        x.after(4, 0);
        due("cheapest at 4", x.cheapest(4, 1), 6);
        due("cheapest at 3", x.cheapest(3, 1), 12);
        due("hurried", x.hurried(3, false), 9);
        due("eased", x.hurried(3, true), 4);
        due("the dearer one next", x.hurried(4, false), 1);
        due("none is eased", x.hurried(4, true), 0);
        due("the cheaper one first", x.hurried(5, false), 4);
    }

    private static int checkOf(BarnBench x, int n, int... numbers) {
        for (int v : numbers) {
            x.tell(v);
        }
        return x.check(n);
    }

    private static void checks() {
        promise = 27;
        BarnBench x = row();
        for (int i = 1; i <= 60; i++) {
            due("tell", x.tell(i), i);
        }
        due("full", x.tell(0), FULL);
        due("60 wait", x.told(4), 60);

        promise = 28;
        due("the first that is wrong", x.check(15), 101);
        due("none wait", x.told(4), 0);
        due("cheapest", checkOf(x, 13, 0, 3, 3, 5, 8, 5), 0);
        due("another cheapest", checkOf(x, 13, 0, 5, 5, 5, 10, 3), 0);
        due("dearer", checkOf(x, 13, 0, 3, 3, 5, 8, 4), 1);
        due("dearer at a greater length", checkOf(x, 14, 0, 3, 3, 5, 8, 5), 1);
        due("longer than n", checkOf(x, 12, 0, 3, 3, 5, 8, 5), 102);
        due("more was told", checkOf(x, 13, 0, 3, 3, 5, 8, 5, 0), 90);
        due("one is missing", checkOf(x, 13, 0, 3, 3, 5), 102);
        due("half is missing", checkOf(x, 13, 0, 3, 3, 5, 8), 102);
        due("all are missing", checkOf(x, 13), 100);
        due("below h", checkOf(x, 15, 0, 1, 5, 5, 10, 5), 100);
        due("above e", checkOf(x, 15, 0, 5, 5, 6, 11, 4), 101);
        due("below 0", checkOf(x, 15, -1, 5, 5, 5, 10, 5), 100);
        due("ahead of an end", checkOf(x, 15, 0, 5, 4, 5, 10, 5), 101);
        due("far", checkOf(x, MOST, MOST, 5, 5, 5, 10, 5), 100);
        due("far", checkOf(x, MOST, 0, 5, MOST - 5, 5, MOST - 1, 5), 102);
        due("as far as n", checkOf(x, MOST, 0, 5, 5, 5, MOST - 5, 5), 0);
        due("short", checkOf(x, 8, 0, 2, 2, 5, 7, 2), SHORT);
        due("gone also then", x.told(4), 0);
        due("short", checkOf(x, LEAST), SHORT);
        due("no tasks", checkOf(new BarnBench(), 0), 0);
        due("no tasks, more was told", checkOf(new BarnBench(), 0, 1), 90);
        checksOfFollowers();
    }

    private static void checksOfFollowers() {
        BarnBench x = new BarnBench();
        add(x, 1, 2);
        add(x, 1, 3);
        add(x, 1, 4);
        x.after(0, 2);
        due("the end of a later one", checkOf(x, 9, 3, 2, 0, 3, 0, 4), 100);
        due("in time", checkOf(x, 9, 4, 2, 0, 3, 0, 4), 0);
        due("by wrong numbers too", checkOf(x, 9, 4, 2, 0, 3, -2, 6), 102);
        due("by wrong numbers too", checkOf(x, 9, 4, 2, 0, 3, 0, 5), 100);
        due("far wrong numbers", checkOf(x, 9, 4, 2, 0, 3, MOST, MOST), 100);
        due("far wrong numbers", checkOf(x, 9, 4, 2, 0, 3, LEAST, LEAST), 102);
        due("one that is missing asks nothing", checkOf(x, 9, 0, 2, 0, 3), 102);
        checkOf(x, 9, 0, 0, 0, 0, MOST, MOST);
        due("nor does half of one", checkOf(x, 9, 0, 2, 0, 3, 5), 102);
    }

    private static void undos() {
        promise = 29;
        BarnBench x = row();
        x.plan(12);
        x.span(0, 3);
        due("span", x.undo(), 5);
        due("told span", x.span(0, 3), 5);
        due("the plan stays", x.told(5), 1);
        x.undo();
        x.after(2, 1);
        due("after again", x.undo(), 5);
        due("still follows", x.follows(2, 1), 1);
        due("the plan is none", x.told(5), 0);
        x.away(2, 1);
        x.plan(12);
        due("away", x.undo(), 5);
        due("follows again", x.follows(2, 1), 1);
        due("the plan is none", x.told(5), 0);
        due("after", x.undo(), 4);
        due("no more", x.follows(2, 1), 0);
        x.undo();
        x.plan(12);
        due("task", x.undo(), 2);
        due("tasks", x.told(2), 2);
        due("no plan", x.cost(), NONE);
        due("findings are no acts", x.after(0, 0), RING);
        due("task", x.undo(), 1);
        due("task", x.undo(), 0);
        due("none", x.undo(), NONE);
        add(x, 0, 5, 2, 3);
        for (int i = 0; i < 40; i++) {
            x.span(0, 2 + i % 4);
        }
        for (int left = 29; left >= 0; left--) {
            due("30 are kept", x.undo(), left);
        }
        due("none", x.undo(), NONE);
        due("the oldest stay done", x.span(0, 5), 2 + 9 % 4);
    }

    private static void keeps() {
        promise = 30;
        BarnBench x = row();
        x.span(0, 3);
        due("keep", x.keep(), 3);
        x.undo();
        due("undo goes on", x.undo(), 4);

        promise = 31;
        x.away(1, 0);
        x.plan(12);
        x.tell(1);
        add(x, 1, 1);
        x.plan(12);
        due("back", x.back(), 3);
        due("tasks", x.told(2), 3);
        due("pairs", x.told(3), 2);
        due("told span", x.length(), 13);
        due("numbers wait on", x.told(4), 1);
        due("no plan", x.told(5), 0);
        due("nothing to undo", x.undo(), NONE);
        x.plan(12);
        x.away(1, 0);
        x.span(0, 2);
        due("back again", x.back(), 3);
        due("follows again", x.follows(1, 0), 1);
        due("cheapest again", x.cheapest(12, 1), 9);
        x.undo();
        add(x, 1, 1);
        due("in place of what was", x.keep(), 4);
        x.undo();
        due("back", x.back(), 4);
        BarnBench y = new BarnBench();
        y.plan(0);
        due("none", y.back(), NONE);
        due("it changes nothing", y.told(5), 1);
        due("no tasks are kept too", y.keep(), 0);
        add(y, 1, 1);
        due("back", y.back(), 0);
    }

    private static void tolds() {
        promise = 32;
        BarnBench x = row();
        due("pairs", x.told(3), 2);
        x.after(2, 0);
        x.after(2, 0);
        due("each pair is one", x.told(3), 3);
        due("no findings", x.told(6), 0);
        due("no such what", x.told(7), BEYOND);
        due("it counts", x.told(6), 1);
        due("no such what", x.told(-1), BEYOND);
        x.undo();
        x.cheapest(0, 0);
        x.within(-1);
        x.check(0);
        due("all count", x.told(6), 5);
        x.keep();
        x.back();
        due("ever", x.told(6), 5);
        due("tasks", x.told(2), 3);
        due("a plan", x.told(5), 0);
        x.plan(20);
        due("a plan", x.told(5), 1);
        x.after(0, 1);
        x.away(2, 0);
        x.undo();
        due("the latest ring stays", x.told(0), 3);
    }
}
