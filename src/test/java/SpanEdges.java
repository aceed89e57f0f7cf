/** Told spans: promises 12 to 16. */
final class SpanEdges extends Edges {
    static void all() {
        spans();
        spansBeyond();
        lengths();
        earlies();
        tights();
        toldCosts();
        toldCostsOfSteps();
    }

    private static void spans() {
        promise(12, "A task's told span: what it was.");
        BarnBench x = row();
        due("e at first", x.span(0, 2), 5);
        due("h", x.span(0, 3), 2);
        due("between", x.span(0, 5), 3);
        due("e", x.span(0, 5), 5);
        due("of another one e still", x.span(2, 4), 5);
        due("length with told spans", x.length(), 14);
        x = many(12, 0, 60, 0, 1);
        due("the least of the last", x.span(11, 0), 60);
        due("the greatest of the last", x.span(11, 60), 0);
    }

    private static void spansBeyond() {
        promise(12, "BEYOND: no such task, or x is not h to e.");
        long[][] numbers = {{5, 2, 3}, {5}, {5, 2, 3, 2, 4}, {5}, {5, 2, 3, 4}};
        for (int kind = 0; kind < 5; kind++) {
            BarnBench x = one(kind, numbers[kind]);
            int h = x.ask(0, 2);
            due("just below h of kind " + kind, x.span(0, h - 1), BEYOND);
            due("just above e of kind " + kind, x.span(0, 6), BEYOND);
            due("the least of kind " + kind, x.span(0, LEAST), BEYOND);
            due("the greatest of kind " + kind, x.span(0, MOST), BEYOND);
            due("it stays e of kind " + kind, x.span(0, h), 5);
            due("h is taken of kind " + kind, x.span(0, 5), h);
            due("e is taken of kind " + kind, x.span(0, 5), 5);
        }
        BarnBench x = one(0, 60, 0, 1);
        due("-1", x.span(0, -1), BEYOND);
        due("61", x.span(0, 61), BEYOND);
        due("0", x.span(0, 0), 60);
        due("60", x.span(0, 60), 0);
        x = one(1, 0);
        due("-1 of none", x.span(0, -1), BEYOND);
        due("1 of none", x.span(0, 1), BEYOND);
        due("0 of none", x.span(0, 0), 0);
        x = row();
        int[] noTasks = {LEAST, -1, 3, 12, MOST};
        for (int task : noTasks) {
            due("task " + task, x.span(task, 0), BEYOND);
            due("task " + task, x.span(task, 5), BEYOND);
        }
        due("without tasks", new BarnBench().span(0, 0), BEYOND);
    }

    private static void lengths() {
        promise(13, "The length of the shortest plan with told spans.");
        due("without tasks", new BarnBench().length(), 0);
        due("of a task of no span", one(3, 0).length(), 0);
        BarnBench x = many(12, 0, 60, 0, 1);
        due("twelve beside one another", x.length(), 60);
        inRow(x);
        due("twelve in a row", x.length(), 720);
        for (int task = 0; task < 12; task++) {
            x.span(task, task % 2);
        }
        due("six of 1, six of 0", x.length(), 6);
        x = row();
        add(x, 1, 15);
        due("two as long", x.length(), 15);
        x.span(0, 4);
        due("the other one is longer", x.length(), 15);
        add(x, 1, 16);
        due("the longest", x.length(), 16);
        x.after(0, 4);
        due("another one ahead", x.length(), 30);
    }

    private static void earlies() {
        promise(14, "A task's EARLY (late: its LATE).");
        BarnBench x = row();
        add(x, 1, 4);
        x.after(2, 3);
        add(x, 1, 3);
        add(x, 1, 0);
        times(x, "all easy", new int[] {0, 5, 10, 0, 0, 0}, new int[] {0, 5, 10, 6, 12, 15});
        x.span(0, 2);
        times(x, "one hurried", new int[] {0, 2, 7, 0, 0, 0}, new int[] {0, 2, 7, 3, 9, 12});
        x.after(5, 2);
        times(x, "none behind all", new int[] {0, 2, 7, 0, 0, 12}, new int[] {0, 2, 7, 3, 9, 12});
        x.after(1, 3);
        times(x, "the longer of two", new int[] {0, 4, 9, 0, 0, 14}, new int[] {2, 4, 9, 0, 11, 14});
        x = inRow(many(12, 1, 60));
        due("the last of twelve in a row", x.early(11, false), 660);
        due("the last of twelve in a row", x.early(11, true), 660);

        promise(14, "BEYOND.");
        int[] noTasks = {LEAST, -1, 12, MOST};
        for (int task : noTasks) {
            due("early(" + task + ", false)", x.early(task, false), BEYOND);
            due("early(" + task + ", true)", x.early(task, true), BEYOND);
        }
        due("without tasks", new BarnBench().early(0, false), BEYOND);
        due("without tasks", new BarnBench().early(0, true), BEYOND);
        x.undo();
        due("the first", x.early(0, true), 0);
    }

    private static void times(BarnBench x, String what, int[] early, int[] late) {
        for (int task = 0; task < early.length; task++) {
            due(what + ": early of " + task, x.early(task, false), early[task]);
            due(what + ": late of " + task, x.early(task, true), late[task]);
        }
    }

    private static void tights() {
        promise(15, "Bits of the TIGHT tasks.");
        due("without tasks", new BarnBench().tight(), 0);
        due("one of no span", one(1, 0).tight(), 1);
        BarnBench x = many(12, 0, 60, 59, 1);
        due("twelve beside one another", x.tight(), ALL_TWELVE);
        for (int task = 0; task < 11; task++) {
            x.span(task, 59);
        }
        due("the longest alone", x.tight(), 1 << 11);
        x.span(11, 59);
        due("all as long again", x.tight(), ALL_TWELVE);
        inRow(x);
        due("twelve in a row", x.tight(), ALL_TWELVE);
        x = row();
        add(x, 1, 4);
        x.after(2, 3);
        due("one has time", x.tight(), 0b0111);
        x.span(0, 2);
        due("less time", x.tight(), 0b0111);
        x.after(1, 3);
        due("the other one now", x.tight(), 0b1110);
    }

    private static void toldCosts() {
        promise(16, "What a plan with told spans costs.");
        due("without tasks", new BarnBench().toldCost(), 0);
        BarnBench x = one(0, 60, 0, 100000);
        due("easy", x.toldCost(), 0);
        x.span(0, 59);
        due("one hurried", x.toldCost(), 100000);
        x.span(0, 0);
        due("all hurried", x.toldCost(), 6000000);
        due("FIXED", one(1, 60).toldCost(), 0);
        due("WAIT", one(3, 60).toldCost(), 0);
        x = one(4, 9, 0, 6, 3);
        due("rent of the easy span", x.toldCost(), 27);
        x.span(0, 8);
        due("rent and price", x.toldCost(), 6 + 24);
        x.span(0, 0);
        due("no rent", x.toldCost(), 54);
        x = one(4, 60, 0, 0, 100000);
        due("the greatest rent", x.toldCost(), 6000000);
        x = many(12, 2, 60, 0, 100000, 0, 100000);
        for (int task = 0; task < 12; task++) {
            x.span(task, 0);
        }
        due("the greatest of all", x.toldCost(), 144000000);
    }

    private static void toldCostsOfSteps() {
        BarnBench x = one(2, 10, 0, 3, 4, 5);
        int[] spans = {10, 9, 7, 6, 5, 1, 0};
        int[] costs = {0, 3, 9, 12, 15 + 5, 27 + 25, 30 + 30};
        for (int i = 0; i < spans.length; i++) {
            x.span(0, spans[i]);
            due("STEPPED at " + spans[i], x.toldCost(), costs[i]);
        }
        x = one(2, 10, 0, 3, 0, 5);
        due("k 0, easy", x.toldCost(), 0);
        x.span(0, 9);
        due("k 0, one hurried", x.toldCost(), 8);
        x = one(2, 10, 0, 3, 10, 5);
        x.span(0, 0);
        due("k as e", x.toldCost(), 30);
        x = one(2, 10, 0, 3, 60, 5);
        x.span(0, 0);
        due("k above e", x.toldCost(), 30);
        x = one(2, 60, 0, 1, 59, 100000);
        x.span(0, 1);
        due("just ahead of the step", x.toldCost(), 59);
        x.span(0, 0);
        due("just behind it", x.toldCost(), 60 + 100000);
    }
}
