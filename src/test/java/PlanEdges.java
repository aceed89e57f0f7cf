/** Plans that are made: promises 23 to 26. */
final class PlanEdges extends Edges {
    static void all() {
        lengthsOfPlans();
        planFindings();
        latestPlan();
        noneSince();
        notNoneSince();
        plannedBeyond();
        costs();
        hurries();
        easings();
        hurriedFindings();
    }

    private static void lengthsOfPlans() {
        promise(23, "THE PLAN of length n is made: its length.");
        BarnBench x = row();
        for (int n = 9; n <= 15; n++) {
            due("plan(" + n + ")", x.plan(n), n);
        }
        due("one longer than all easy spans", x.plan(16), 15);
        due("the longest", x.plan(1000), 15);
        due("it is made", x.told(5), 1);
        due("hurried for nothing", one(0, 9, 3, 0).plan(9), 3);
        due("rent above the price", one(4, 9, 3, 5, 8).plan(9), 3);
        due("rent as the price", one(4, 9, 3, 5, 5).plan(9), 3);
        due("rent below the price", one(4, 9, 3, 5, 4).plan(9), 9);
        due("a step for nothing less", one(2, 9, 3, 0, 2, 4).plan(9), 7);
        x = new BarnBench();
        due("0, without tasks", x.plan(0), 0);
        due("it is made", x.told(5), 1);
        due("1000, without tasks", x.plan(1000), 0);
        x = many(12, 0, 60, 0, 1);
        due("0, twelve tasks", x.plan(0), 0);
        inRow(x);
        due("720, twelve tasks in a row", x.plan(720), 720);
        due("719, twelve tasks in a row", x.plan(719), 719);
        due("721, twelve tasks in a row", x.plan(721), 720);
    }

    private static void planFindings() {
        promise(23, "SHORT: n is below SHORTEST.");
        BarnBench x = row();
        int[] shorter = {LEAST, -1, 0, 8};
        for (int n : shorter) {
            due("plan(" + n + ")", x.plan(n), SHORT);
        }
        due("none is made", x.told(5), 0);
        due("SHORTEST", x.plan(9), 9);
        due("-1, without tasks", new BarnBench().plan(-1), SHORT);
        due("-1 at a SHORTEST of 0", one(0, 9, 0, 6).plan(-1), SHORT);
        BarnBench fixed = inRow(many(12, 1, 60));
        due("just below the longest SHORTEST", fixed.plan(719), SHORT);
        due("the longest SHORTEST", fixed.plan(720), 720);

        promise(23, "BEYOND: n is above 1000.");
        x = row();
        due("1001", x.plan(1001), BEYOND);
        due("the greatest", x.plan(MOST), BEYOND);
        due("none is made", x.told(5), 0);
        due("1000", x.plan(1000), 15);
        due("1000, the longest SHORTEST", fixed.plan(1000), 720);
        due("1001, without tasks", new BarnBench().plan(1001), BEYOND);
    }

    private static void isPlan(BarnBench x, String what, int[] begins, int[] spans) {
        for (int task = 0; task < begins.length; task++) {
            due(what + ": begin of " + task, x.planned(task, false), begins[task]);
            due(what + ": span of " + task, x.planned(task, true), spans[task]);
        }
    }

    private static void latestPlan() {
        promise(24, "Of the plan that was made latest: when a task begins (span: its span).");
        int[][] begins = {{0, 2, 7}, {0, 2, 7}, {0, 2, 7}, {0, 2, 7}, {0, 3, 8}, {0, 4, 9}, {0, 5, 10}, {0, 5, 10}};
        int[][] spans = {{2, 5, 2}, {2, 5, 3}, {2, 5, 4}, {2, 5, 5}, {3, 5, 5}, {4, 5, 5}, {5, 5, 5}, {5, 5, 5}};
        BarnBench x = row();
        for (int n = 9; n <= 16; n++) {
            x.plan(n);
            isPlan(x, "plan(" + n + ")", begins[n - 9], spans[n - 9]);
        }
        x.plan(9);
        isPlan(x, "a shorter one again", begins[0], spans[0]);
        x.plan(8);
        x.plan(1001);
        isPlan(x, "a finding makes none", begins[0], spans[0]);
        x.plan(1000);
        isPlan(x, "the longest", begins[7], spans[7]);
        x = inRow(many(12, 0, 60, 0, 1));
        x.plan(720);
        due("begin of the last", x.planned(11, false), 660);
        due("span of the last", x.planned(11, true), 60);
        x.plan(0);
        due("begin of the last, all hurried", x.planned(11, false), 0);
        due("span of the last, all hurried", x.planned(11, true), 0);
    }

    private static void isNone(BarnBench x, String since) {
        due("begin since " + since, x.planned(0, false), NONE);
        due("span since " + since, x.planned(0, true), NONE);
        due("cost since " + since, x.cost(), NONE);
        due("made since " + since, x.told(5), 0);
    }

    private static void noneSince() {
        promise(24, "NONE: none was made (since a task came, or one follows another one, or no more).");
        isNone(new BarnBench(), "the start");
        BarnBench x = row();
        isNone(x, "tasks came");
        due("whatever the task is", x.planned(99, true), NONE);
        x.plan(12);
        x.after(2, 0);
        isNone(x, "one follows another one");
        x.plan(12);
        x.after(2, 0);
        isNone(x, "one follows another one once more");
        x.plan(12);
        x.away(2, 0);
        isNone(x, "one follows another one no more");
        x.plan(12);
        due("made again", x.planned(0, true), 2);
        add(x, 1, 14);
        isNone(x, "a task came");
        due("short", x.plan(12), SHORT);
        isNone(x, "a task came, and a plan was too short");
        x.plan(14);
        due("made again", x.planned(3, true), 14);
    }

    private static void notNoneSince() {
        BarnBench x = row();
        x.plan(12);
        x.span(0, 3);
        x.board(0, 32, 3);
        x.put(0, 0, 61);
        x.copy(0, 0, 0, 1, 1);
        x.task(1, 0, 0);
        x.after(0, 2);
        x.after(9, 0);
        x.away(0, 1);
        x.keep();
        x.tell(1);
        x.check(15);
        x.within(3);
        x.cheapest(9, 1);
        x.slope(9);
        x.bends();
        x.hurried(9, false);
        x.length();
        x.longest(true);
        x.early(0, true);
        x.order(0);
        due("it is made still", x.told(5), 1);
        isPlan(x, "what makes no other one leaves it", new int[] {0, 2, 7}, new int[] {2, 5, 5});
        due("its cost", x.cost(), 9);
    }

    private static void plannedBeyond() {
        promise(24, "BEYOND: no such task.");
        BarnBench x = row();
        x.plan(12);
        int[] noTasks = {LEAST, -1, 3, 12, MOST};
        for (int task : noTasks) {
            due("begin of " + task, x.planned(task, false), BEYOND);
            due("span of " + task, x.planned(task, true), BEYOND);
        }
        due("the first", x.planned(0, false), 0);
        due("the last", x.planned(2, false), 7);
        x = new BarnBench();
        x.plan(0);
        due("without tasks", x.planned(0, false), BEYOND);
    }

    private static void costs() {
        promise(25, "What it costs.");
        int[] costs = {22, 15, 12, 9, 6, 3, 0, 0};
        BarnBench x = row();
        x.span(0, 2);
        for (int n = 9; n <= 16; n++) {
            x.plan(n);
            due("plan(" + n + ")", x.cost(), costs[n - 9]);
        }
        x.plan(9);
        x.plan(8);
        due("a finding makes none", x.cost(), 22);
        x.plan(1000);
        due("plan(1000)", x.cost(), 0);
        BarnBench none = new BarnBench();
        none.plan(0);
        due("without tasks", none.cost(), 0);
        BarnBench dear = many(12, 2, 60, 0, 100000, 0, 100000);
        dear.plan(0);
        due("the dearest", dear.cost(), 144000000);
        BarnBench rented = one(4, 9, 1, 6, 3);
        rented.plan(1000);
        due("rent", rented.cost(), 27);

        promise(25, "NONE.");
        due("at first", new BarnBench().cost(), NONE);
        BarnBench y = row();
        due("none was made", y.cost(), NONE);
        y.plan(8);
        due("it was too short", y.cost(), NONE);
        y.plan(12);
        due("made", y.cost(), 9);
        y.away(2, 1);
        due("no more", y.cost(), NONE);
    }

    private static void hurries() {
        promise(26, "Bits of the tasks that have a lower span in THE PLAN of length n than in that of n + 1"
            + " (eased: a greater one).");
        int[] bits = {4, 4, 4, 1, 1, 1, 0, 0};
        BarnBench x = row();
        for (int n = 9; n <= 16; n++) {
            due("hurried at " + n, x.hurried(n, false), bits[n - 9]);
            due("eased at " + n, x.hurried(n, true), 0);
        }
        due("hurried at 1000", x.hurried(1000, false), 0);
        due("no plan is made so", x.told(5), 0);
        x.plan(12);
        x.hurried(9, false);
        due("the plan that is made stays", x.planned(2, true), 5);
        x = many(12, 0, 60, 0, 1);
        due("all twelve at 0", x.hurried(0, false), ALL_TWELVE);
        due("all twelve at 59", x.hurried(59, false), ALL_TWELVE);
        due("none at 60", x.hurried(60, false), 0);
        due("FIXED", one(1, 9).hurried(9, false), 0);
        due("hurried for nothing", one(0, 9, 3, 0).hurried(3, false), 0);
        due("without tasks", new BarnBench().hurried(0, false), 0);
        due("eased, without tasks", new BarnBench().hurried(1000, true), 0);
    }

    /** At 3 hurrying 0 and 3 more serves all rows at once, and 2 need not be hurried any more. */
    private static void easings() {
        BarnBench x = new BarnBench();
        add(x, 0, 3, 0, 4);
        add(x, 0, 2, 2, 2);
        add(x, 0, 1, 0, 2);
        add(x, 0, 2, 0, 4);
        add(x, 0, 2, 0, 5);
        x.after(2, 0);
        x.after(3, 1);
        x.after(3, 2);
        x.after(4, 0);
        due("hurried at 3", x.hurried(3, false), 0b01001);
        due("eased at 3", x.hurried(3, true), 0b00100);
        due("hurried at 4", x.hurried(4, false), 0b00001);
        due("eased at 4", x.hurried(4, true), 0);
    }

    private static void hurriedFindings() {
        BarnBench x = row();
        BarnBench none = new BarnBench();
        BarnBench fixed = inRow(many(12, 1, 60));
        boolean[] flags = {false, true};
        for (boolean eased : flags) {
            promise(26, "SHORT: n is below SHORTEST.");
            due("SHORTEST less 1", x.hurried(8, eased), SHORT);
            due("the least", x.hurried(LEAST, eased), SHORT);
            due("-1, without tasks", none.hurried(-1, eased), SHORT);
            due("just below the longest SHORTEST", fixed.hurried(719, eased), SHORT);
            due("the longest SHORTEST", fixed.hurried(720, eased), 0);

            promise(26, "BEYOND: n is above 1000.");
            due("1000", x.hurried(1000, eased), 0);
            due("1001", x.hurried(1001, eased), BEYOND);
            due("the greatest", x.hurried(MOST, eased), BEYOND);
            due("1001, without tasks", none.hurried(1001, eased), BEYOND);
            due("1000, without tasks", none.hurried(1000, eased), 0);
        }
    }
}
