/** The terms, and how many calls an object takes. */
final class TermEdges extends Edges {
    static void all() {
        calls();
        findings();
        boards();
        tasks();
        kinds();
        rings();
        plans();
        lengths();
        costs();
        cheapest();
        straight();
        bends();
        thePlan();
        wholeNumbers();
        toldSpans();
        earlyAndLate();
    }

    private static void calls() {
        LEDGER.holdTo("What it is",
            "An object is used for at most 512 calls after it has been made; what later calls answer is free.");
        BarnBench x = new BarnBench();
        x.board(0, 32, 5);
        long[] numbers = {5, 2, 3, 2, 4};
        for (int i = 0; i < 5; i++) {
            x.put(0, i, numbers[i]);
        }
        x.task(2, 0, 0);
        for (int i = 0; i < 504; i++) {
            x.span(0, 2 + i % 4);
        }
        due("the last of 512 calls", x.plan(4), 4);
    }

    private static void findings() {
        terms("FINDINGS are the answers below 0: BEYOND -1, MISSING -2, SIZE -3, KIND -4, FULL -5, RING -6, NONE -7,"
            + " SHORT -8.");
        BarnBench x = many(12, 1, 1);
        due("BEYOND", x.board(4, 32, 1), -1);
        due("MISSING", x.put(0, 0, 1), -2);
        due("SIZE", x.board(0, 32, -1), -3);
        due("KIND", x.as(0, 3), -4);
        due("FULL", x.task(1, 3, 0), -5);
        due("RING", x.after(0, 0), -6);
        due("NONE", x.away(0, 1), -7);
        due("SHORT", x.plan(0), -8);
        due("how many answered one", x.told(6), 8);
        due("SIZE of a long", x.cheapest(1, 0), -3);
        due("NONE of a long", x.cost(), -7);
        due("SHORT of a long", x.slope(0), -8);
        due("BEYOND of a long", x.slope(1001), -1);
        due("how many answered one", x.told(6), 12);
    }

    private static void boards() {
        terms("BOARDS 0 to 3 are rows of up to 24 numbers of 32 or of 64 bits, or MISSING (all, at first).");
        BarnBench x = new BarnBench();
        for (int b = 0; b < 4; b++) {
            due("at first " + b, x.put(b, 0, 0), MISSING);
        }
        for (int b = 0; b < 4; b++) {
            due("24 numbers", x.board(b, b < 2 ? 32 : 64, 24), 24);
            due("the last", x.put(b, 23, (1L << 32) + 10 + b), 0);
            due("no more", x.put(b, 24, 0), BEYOND);
        }
        due("the last of board 0, 32 bits", read(x, 0, 23), 10);
        due("the last of board 1, 32 bits", read(x, 1, 23), 11);
        due("the last of board 2, 64 bits", read(x, 2, 23), SIZE);
        due("the last of board 3, 64 bits", read(x, 3, 23), SIZE);
        due("ahead of board 0", x.put(-1, 0, 0), BEYOND);
        due("behind board 3", x.put(4, 0, 0), BEYOND);
    }

    private static void tasks() {
        terms("TASKS 0, 1, .. (at most 12) come from boards; each has a kind, an EASY span e (0 to 60), a HARD span h"
            + " (0 to e), a PRICE p (0 to 100000), and two more numbers, by kinds:");
        BarnBench x = new BarnBench();
        for (int task = 0; task < 12; task++) {
            due("task " + task, add(x, 0, 60, 0, 100000), task);
        }
        due("one more", add(x, 0, 60, 0, 100000), FULL);
        for (int task = 0; task < 12; task++) {
            due("kind of " + task, x.ask(task, 0), 0);
            due("e of " + task, x.ask(task, 1), 60);
            due("h of " + task, x.ask(task, 2), 0);
            due("p of " + task, x.ask(task, 3), 100000);
            due("no more numbers of " + task, x.ask(task, 4) + x.ask(task, 5), 0);
        }
    }

    private static void kinds() {
        BarnBench x = new BarnBench();
        terms("0 TASK: e, h, p.");
        due("the least", add(x, 0, 0, 0, 0), 0);
        due("the greatest", add(x, 0, 60, 60, 100000), 1);
        due("e, h above", add(x, 0, 61, 0, 0) + add(x, 0, 5, 6, 0), 2 * SIZE);
        due("e, h, p below", add(x, 0, -1, -1, 0) + add(x, 0, 5, -1, 0) + add(x, 0, 5, 5, -1), 3 * SIZE);
        due("p above", add(x, 0, 5, 5, 100001), SIZE);
        due("two numbers are too few", add(x, 0, 5, 5), BEYOND);
        due("it is under none", x.as(0, 1), KIND);

        terms("1 FIXED under TASK: e alone (h is e, p is 0).");
        due("the greatest", add(x, 1, 60), 2);
        due("h is e", x.ask(2, 2), 60);
        due("p is 0", x.ask(2, 3), 0);
        due("above and below", add(x, 1, 61) + add(x, 1, -1), 2 * SIZE);
        due("under TASK", x.as(2, 0), 2);
        due("not under another", x.as(2, 3), KIND);

        terms("2 STEPPED under TASK: e, h, p, k (0 to 60), m (0 to 100000).");
        due("the least", add(x, 2, 0, 0, 0, 0, 0), 3);
        due("the greatest", add(x, 2, 60, 60, 100000, 60, 100000), 4);
        due("k below and above", add(x, 2, 5, 5, 5, -1, 5) + add(x, 2, 5, 5, 5, 61, 5), 2 * SIZE);
        due("m below and above", add(x, 2, 5, 5, 5, 5, -1) + add(x, 2, 5, 5, 5, 5, 100001), 2 * SIZE);
        due("four numbers are too few", add(x, 2, 5, 5, 5, 5), BEYOND);
        due("under TASK", x.as(4, 0), 4);
        due("not under another", x.as(4, 1), KIND);

        terms("3 WAIT under FIXED: e alone.");
        due("the greatest", add(x, 3, 60), 5);
        due("h is e", x.ask(5, 2), 60);
        due("above and below", add(x, 3, 61) + add(x, 3, -1), 2 * SIZE);
        due("under FIXED", x.as(5, 1), 5);
        due("so under TASK", x.as(5, 0), 5);
        due("not under another", x.as(5, 2), KIND);

        terms("4 RENTED under TASK: e, h, p, r (0 to 100000).");
        due("the least", add(x, 4, 0, 0, 0, 0), 6);
        due("the greatest", add(x, 4, 60, 60, 100000, 100000), 7);
        due("r below and above", add(x, 4, 5, 5, 5, -1) + add(x, 4, 5, 5, 5, 100001), 2 * SIZE);
        due("three numbers are too few", add(x, 4, 5, 5, 5), BEYOND);
        due("under TASK", x.as(7, 0), 7);
        due("not under another", x.as(7, 2), KIND);
    }

    private static void rings() {
        terms("A task FOLLOWS others; no task may come to follow itself by a row of such (a RING).");
        BarnBench x = inRow(many(12, 1, 1));
        due("the row", x.told(3), 11);
        for (int task = 0; task < 12; task++) {
            for (int other = task; other < 12; other++) {
                due(task + " after " + other, x.after(task, other), RING);
            }
        }
        due("pairs stay", x.told(3), 11);
        x.away(11, 10);
        due("the first after the last", x.after(0, 11), 1);
        due("all in a row still", x.length(), 12);
    }

    private static int check(BarnBench x, int n, int... numbers) {
        for (int v : numbers) {
            x.tell(v);
        }
        return x.check(n);
    }

    private static void plans() {
        terms("A PLAN gives each task a SPAN x from h to e, and when it BEGINS (from 0 on), not ahead of the end"
            + " (begin and span) of any that it follows.");
        BarnBench x = many(2, 0, 9, 3, 0);
        x.after(1, 0);
        due("least spans, from 0 on, at the end", check(x, 9, 0, 3, 3, 3), 0);
        due("greatest spans", check(x, 18, 0, 9, 9, 9), 0);
        due("a span below h", check(x, 18, 0, 2, 9, 9), 100);
        due("a span above e", check(x, 30, 0, 10, 19, 9), 100);
        due("begins below 0", check(x, 18, -1, 9, 9, 9), 100);
        due("begins ahead of the end", check(x, 18, 0, 9, 8, 9), 101);
    }

    private static void lengths() {
        terms("Its LENGTH is the greatest end (0 without tasks).");
        BarnBench x = new BarnBench();
        due("THE PLAN without tasks", x.plan(1000), 0);
        due("with told spans, without tasks", x.length(), 0);
        due("with easy spans, without tasks", x.longest(false), 0);
        due("with hard spans, without tasks", x.longest(true), 0);
        add(x, 1, 7);
        add(x, 1, 5);
        due("the greatest end is not that of the last", x.plan(1000), 7);
        due("with told spans", x.length(), 7);
        x.after(1, 0);
        add(x, 1, 0);
        due("the greatest end is one between", x.plan(1000), 12);
        due("with told spans", x.length(), 12);
    }

    private static void costs() {
        terms("A task COSTS p (e - x); STEPPED m (e - k - x) more when that is above 0; RENTED r x more; the plan costs"
            + " what all cost together.");
        BarnBench x = new BarnBench();
        add(x, 0, 9, 0, 7);
        due("TASK at e", x.toldCost(), 0);
        x.span(0, 8);
        due("TASK at e - 1", x.toldCost(), 7);
        add(x, 2, 9, 0, 2, 4, 5);
        x.span(1, 5);
        due("STEPPED, 0 is not above 0", x.toldCost(), 7 + 8);
        x.span(1, 4);
        due("STEPPED, 1 is", x.toldCost(), 7 + 10 + 5);
        x.span(1, 6);
        due("STEPPED, -1 is not", x.toldCost(), 7 + 6);
        add(x, 4, 9, 0, 3, 4);
        due("RENTED at e", x.toldCost(), 13 + 36);
        x.span(2, 0);
        due("RENTED at 0", x.toldCost(), 13 + 27);
        add(x, 1, 60);
        add(x, 3, 60);
        due("FIXED and WAIT", x.toldCost(), 40);
        x.plan(1000);
        due("THE PLAN: rent above the price", x.cost(), 27);
    }

    private static void cheapest() {
        terms("CHEAPEST(t) is the least cost of all plans that are not longer than t (there is none when t is below"
            + " SHORTEST, the length of the shortest plan).");
        BarnBench x = row();
        due("just below SHORTEST", x.cheapest(8, 1), SHORT);
        due("SHORTEST", x.cheapest(9, 1), 22);
        due("less than all hurried: another one is longer", dearAndCheap().cheapest(8, 1), 3);
        due("all easy", x.cheapest(15, 1), 0);
        due("longer than all easy", x.cheapest(16, 1), 0);

        terms("(Spans and begins may be fractions.)");
        x = one(0, 1, 0, 3);
        due("half of 0 to 1", x.cheapest(1, 2), 3);
        due("a thousandth above 0", x.cheapest(1, 1000), 2997);
        due("a thousandth below 1", x.cheapest(999, 1000), 3);
    }

    /** One that is dear to hurry, one behind it that is cheap to hurry, and one of 3 beside them. */
    private static BarnBench dearAndCheap() {
        BarnBench x = new BarnBench();
        add(x, 0, 5, 0, 100);
        add(x, 0, 6, 0, 1);
        add(x, 1, 3);
        x.after(1, 0);
        return x;
    }

    private static void straight() {
        terms("It never rises as t grows, and is straight between whole lengths.");
        BarnBench x = row();
        long last = Long.MAX_VALUE;
        for (int n = 90; n <= 170; n++) {
            long cost = x.cheapest(n, 10);
            due("it does not rise to " + n + " tenths", cost <= last ? 1 : 0, 1);
            last = cost;
            long low = x.cheapest(n / 10, 1);
            long high = x.cheapest(n / 10 + 1, 1);
            due("straight at " + n + " tenths", cost, 10 * low + (high - low) * (n % 10));
        }
    }

    private static void bends() {
        terms("A BEND is a whole length t above SHORTEST at which it turns: its rise from t - 1 to t is not that from t"
            + " to t + 1; and SHORTEST is one, too.");
        BarnBench x = row();
        int k = 0;
        for (int t = 9; t <= 17; t++) {
            boolean turns = t == 9 || x.slope(t - 1) != x.slope(t);
            if (turns) {
                due("bend " + k, x.bend(k), t);
                k++;
            }
        }
        due("bends", x.bends(), k);
        due("SHORTEST is one where nothing turns", one(1, 9).bend(0), 9);
        due("and the only one", one(1, 9).bends(), 1);
        due("SHORTEST is one where it is level", one(0, 9, 3, 0).bend(0), 3);
        x = inRow(many(2, 0, 5, 2, 3));
        due("it does not turn where another one is hurried at the same price", x.bends(), 2);
        due("it turns where it becomes level", x.bend(1), 10);
    }

    private static void thePlan() {
        terms("THE PLAN of a whole length t, not below SHORTEST, is of all plans that are not longer than t and cost"
            + " CHEAPEST(t) the one in which each task begins and ends at the least moment at which it does in any of"
            + " them.");
        BarnBench x = inRow(many(2, 0, 5, 2, 3));
        due("just below SHORTEST", x.plan(3), SHORT);
        due("SHORTEST", x.plan(4), 4);
        x.plan(7);
        due("the first is hurried ahead of the second", x.planned(0, true), 2);
        due("so the second begins at the least moment", x.planned(1, false), 2);
        due("and has all its span", x.planned(1, true), 5);
        x = one(0, 9, 3, 0);
        x.plan(1000);
        due("it ends at the least moment", x.planned(0, true), 3);
        x = row();
        add(x, 1, 4);
        add(x, 0, 4, 0, 0);
        x.after(4, 0);
        x.plan(15);
        due("one with time begins at 0", x.planned(3, false), 0);
        due("one behind another begins at its end", x.planned(4, false), 5);
        due("and ends there if that costs nothing", x.planned(4, true), 0);
    }

    private static void wholeNumbers() {
        terms("(There is one, and all its numbers are whole.)");
        // Two rows of two, bound crosswise, so that hurrying by halves would serve them, too.
        BarnBench x = many(4, 0, 4, 1, 5);
        x.after(2, 0);
        x.after(2, 1);
        x.after(3, 0);
        x.after(3, 1);
        for (int t = 2; t <= 8; t++) {
            x.plan(t);
            long sum = 0;
            for (int task = 0; task < 4; task++) {
                sum += 5 * (4 - x.planned(task, true));
                x.tell(x.planned(task, false));
                x.tell(x.planned(task, true));
            }
            due("the numbers of " + t + " cost what it costs", sum, x.cost());
            due("they are a cheapest plan of " + t, x.check(t), 0);
        }
    }

    private static void toldSpans() {
        terms("A TOLD SPAN is one that a task is told to have (e at first).");
        BarnBench x = one(0, 9, 3, 1);
        due("e at first", x.length(), 9);
        x.plan(3);
        due("a plan tells none", x.length(), 9);
        x.span(0, 4);
        due("as it was told", x.length(), 4);
        add(x, 0, 60, 0, 1);
        due("e at first, of the next one", x.span(1, 60), 60);
        due("the first as it was told", x.span(0, 9), 4);
    }

    private static void earlyAndLate() {
        terms("With told spans a task's EARLY is the least moment at which it can begin; its LATE the greatest at which"
            + " it can in a plan with these spans that is as short as can be; it is TIGHT when both are the same.");
        BarnBench x = row();
        add(x, 0, 5, 0, 1);
        x.after(3, 0);
        due("EARLY", x.early(3, false), 5);
        due("LATE", x.early(3, true), 10);
        due("TIGHT", x.tight(), 0b0111);
        x.span(3, 0);
        due("LATE of no span", x.early(3, true), 15);
        x.span(3, 5);
        x.after(3, 1);
        due("both are the same", x.early(3, true) - x.early(3, false), 0);
        due("TIGHT", x.tight(), 0b1111);
        x.span(3, 4);
        due("one apart", x.early(3, true) - x.early(3, false), 1);
        due("not TIGHT", x.tight(), 0b0111);
    }
}
