import java.util.ArrayList;
import java.util.List;
import java.util.function.Supplier;
import java.util.function.ToLongFunction;

/**
 * What a refused call answers, and that it changes nothing: two objects are made alike, one is asked
 * what it refuses, and then both are asked for all that they hold.
 */
final class RefusalEdges extends Edges {
    private static final String SENTENCE = "Each act tells its findings in the order in which they are asked; an act"
        + " that answers a finding changes nothing, but where told.";

    static void all() {
        terms(SENTENCE);
        orderOfBoardFindings();
        orderOfTaskFindings();
        orderOfOtherFindings();
        boardsChangeNothing();
        tasksChangeNothing();
        pairsChangeNothing();
        lengthsChangeNothing();
        noneAndFullChangeNothing();
        whereTold();
        asksChangeNothing();
    }

    private static void orderOfBoardFindings() {
        BarnBench x = busy();
        due("board: no such board ahead of SIZE", x.board(4, 32, -1), BEYOND);
        due("board: no such bits ahead of SIZE", x.board(0, 33, -1), BEYOND);
        due("put: no such board ahead of MISSING", x.put(4, 0, 0), BEYOND);
        due("put: MISSING ahead of no such number", x.put(2, -1, 0), MISSING);
        due("copy: no such board ahead of MISSING", x.copy(2, 0, 4, 0, 1), BEYOND);
        due("copy: no such board ahead of MISSING", x.copy(-1, 0, 2, 0, 1), BEYOND);
        due("copy: MISSING ahead of KIND", x.copy(2, 0, 1, 0, 1), MISSING);
        due("copy: MISSING ahead of n below 0", x.copy(0, 0, 2, 0, -1), MISSING);
        due("copy: KIND ahead of not so many", x.copy(0, 0, 1, 0, 99), KIND);
        due("copy: KIND ahead of from below 0", x.copy(1, -1, 0, 0, 1), KIND);
    }

    private static void orderOfTaskFindings() {
        BarnBench x = busy();
        due("task: no such kind ahead of MISSING", x.task(5, 2, 0), BEYOND);
        due("task: MISSING ahead of at below 0", x.task(0, 2, -1), MISSING);
        due("task: MISSING ahead of not so many", x.task(0, 2, 99), MISSING);
        due("task: not so many ahead of SIZE", x.task(0, 1, 5), BEYOND);
        x = full();
        due("task: no such kind ahead of FULL", x.task(5, 0, 0), BEYOND);
        due("task: no such board ahead of FULL", x.task(0, 4, 0), BEYOND);
        due("task: MISSING ahead of FULL", x.task(0, 2, 0), MISSING);
        due("task: not so many ahead of FULL", x.task(0, 0, 6), BEYOND);
        due("task: SIZE ahead of FULL", x.task(1, 1, 5), SIZE);
        due("task: FULL", x.task(1, 1, 0), FULL);
    }

    private static void orderOfOtherFindings() {
        BarnBench x = busy();
        due("after: no such task ahead of RING", x.after(4, 4), BEYOND);
        due("away: no such task ahead of NONE", x.away(4, 4), BEYOND);
        due("as: no such kind ahead of KIND", x.as(0, 5), BEYOND);
        due("cheapest: SIZE ahead of SHORT", x.cheapest(8, 0), SIZE);
        due("cheapest: SIZE ahead of SHORT", x.cheapest(8, 1001), SIZE);
        due("check: SHORT ahead of a wrong task", x.check(8), SHORT);
        x.after(3, 0);
        due("planned: NONE ahead of no such task", x.planned(4, false), NONE);
    }

    /** Boards, four tasks, pairs, told spans, what was kept, a plan, numbers that wait, a ring and a fraction. */
    private static BarnBench busy() {
        BarnBench x = new BarnBench();
        layBoards(x);
        x.task(0, 0, 0);
        x.task(1, 0, 0);
        x.task(2, 0, 0);
        x.task(4, 1, 0);
        inRow(x);
        x.span(0, 4);
        x.keep();
        x.away(3, 2);
        x.span(0, 3);
        x.span(3, 2);
        x.after(0, 2);
        x.within(28);
        x.plan(12);
        int[] numbers = {0, 2, 2, 5, 7, 5, 0, 9};
        for (int v : numbers) {
            x.tell(v);
        }
        return x;
    }

    private static void layBoards(BarnBench x) {
        lay(x, 0, 32, 5, 2, 3, 2, 4, 7);
        lay(x, 1, 64, 9, 1, 6, 3, 0, 61);
        lay(x, 3, 32, 8, 1);
    }

    /** Twelve tasks, 60 numbers that wait, and more acts than can be undone. */
    private static BarnBench full() {
        BarnBench x = new BarnBench();
        layBoards(x);
        for (int task = 0; task < 12; task++) {
            x.task(0, 0, 0);
        }
        x.keep();
        inRow(x);
        for (int i = 0; i < 20; i++) {
            x.span(i % 12, 2 + i % 4);
        }
        for (int i = 0; i < 60; i++) {
            x.tell(i);
        }
        return x;
    }

    /** All that can be learnt of an object; it is not as it was afterwards. */
    private static List<Long> allOf(BarnBench x) {
        List<Long> all = new ArrayList<>();
        for (int what = 1; what < 6; what++) {
            all.add((long) x.told(what));
        }
        addPlan(x, all);
        addTasks(x, all);
        all.add((long) x.check(12));
        addUndone(x, all);
        all.add((long) x.back());
        addTasks(x, all);
        for (int b = 0; b < 4; b++) {
            for (int i = 0; i < 7; i++) {
                all.add((long) read(x, b, i));
            }
        }
        return all;
    }

    private static void addPlan(BarnBench x, List<Long> all) {
        all.add(x.cost());
        for (int task = 0; task < 4; task++) {
            all.add((long) x.planned(task, false));
            all.add((long) x.planned(task, true));
        }
    }

    private static void addTasks(BarnBench x, List<Long> all) {
        all.add((long) x.told(2));
        all.add((long) x.told(3));
        all.add((long) x.length());
        all.add((long) x.tight());
        all.add(x.toldCost());
        all.add((long) x.bends());
        all.add(x.cheapest(12, 1));
        for (int task = 0; task < 4; task++) {
            all.add((long) x.early(task, true));
            all.add((long) x.order(task));
            for (int what = 0; what < 6; what++) {
                all.add((long) x.ask(task, what));
            }
            for (int other = 0; other < 4; other++) {
                all.add((long) x.follows(task, other));
            }
        }
    }

    private static void addUndone(BarnBench x, List<Long> all) {
        long left = 0;
        for (int i = 0; i < 31 && left >= 0; i++) {
            left = x.undo();
            all.add(left);
            all.add(x.toldCost());
            all.add((long) x.told(3));
        }
    }

    private static void refuses(String name, long finding, Supplier<BarnBench> made, ToLongFunction<BarnBench> call) {
        BarnBench asked = made.get();
        BarnBench alike = made.get();
        int ring = asked.told(0);
        int findings = asked.told(6);
        due(name, call.applyAsLong(asked), finding);
        due(name + ": findings that it counts", asked.told(6) - findings, 1);
        if (finding != RING) {
            due(name + ": bits of a ring", asked.told(0), ring);
        }
        areAlike(name, asked, alike);
    }

    private static void areAlike(String name, BarnBench asked, BarnBench alike) {
        List<Long> got = allOf(asked);
        List<Long> want = allOf(alike);
        due(name + ": as many answers", got.size(), want.size());
        for (int i = 0; i < Math.min(got.size(), want.size()); i++) {
            due(name + ": what the object holds, answer " + i, got.get(i), want.get(i));
        }
    }

    private static void busyRefuses(String name, long finding, ToLongFunction<BarnBench> call) {
        refuses(name, finding, RefusalEdges::busy, call);
    }

    private static void boardsChangeNothing() {
        busyRefuses("board(-1, 32, 1)", BEYOND, x -> x.board(-1, 32, 1));
        busyRefuses("board(4, 0, 1)", BEYOND, x -> x.board(4, 0, 1));
        busyRefuses("board(0, 16, 1)", BEYOND, x -> x.board(0, 16, 1));
        busyRefuses("board(0, 32, -1)", SIZE, x -> x.board(0, 32, -1));
        busyRefuses("board(1, 64, 25)", BEYOND, x -> x.board(1, 64, 25));
        busyRefuses("board(0, 0, -1)", SIZE, x -> x.board(0, 0, -1));
        busyRefuses("board(0, 0, 25)", BEYOND, x -> x.board(0, 0, 25));
        busyRefuses("board(2, 32, 25)", BEYOND, x -> x.board(2, 32, 25));
        busyRefuses("put(-1, 0, 1)", BEYOND, x -> x.put(-1, 0, 1));
        busyRefuses("put(4, 0, 1)", BEYOND, x -> x.put(4, 0, 1));
        busyRefuses("put(2, 0, 1)", MISSING, x -> x.put(2, 0, 1));
        busyRefuses("put(0, -1, 1)", BEYOND, x -> x.put(0, -1, 1));
        busyRefuses("put(0, 6, 1)", BEYOND, x -> x.put(0, 6, 1));
        busyRefuses("copy(4, 0, 0, 0, 1)", BEYOND, x -> x.copy(4, 0, 0, 0, 1));
        busyRefuses("copy(0, 0, -1, 0, 1)", BEYOND, x -> x.copy(0, 0, -1, 0, 1));
        busyRefuses("copy(2, 0, 0, 0, 1)", MISSING, x -> x.copy(2, 0, 0, 0, 1));
        busyRefuses("copy(0, 0, 2, 0, 1)", MISSING, x -> x.copy(0, 0, 2, 0, 1));
        busyRefuses("copy(1, 0, 0, 0, 1)", KIND, x -> x.copy(1, 0, 0, 0, 1));
        busyRefuses("copy(0, 0, 3, 1, 2)", BEYOND, x -> x.copy(0, 0, 3, 1, 2));
        busyRefuses("copy(0, 5, 3, 0, 2)", BEYOND, x -> x.copy(0, 5, 3, 0, 2));
        busyRefuses("copy(0, -1, 3, 0, 2)", BEYOND, x -> x.copy(0, -1, 3, 0, 2));
        busyRefuses("copy(0, 0, 3, -1, 2)", BEYOND, x -> x.copy(0, 0, 3, -1, 2));
        busyRefuses("copy(0, 0, 3, 0, -1)", BEYOND, x -> x.copy(0, 0, 3, 0, -1));
    }

    private static void tasksChangeNothing() {
        busyRefuses("task(5, 0, 0)", BEYOND, x -> x.task(5, 0, 0));
        busyRefuses("task(-1, 0, 0)", BEYOND, x -> x.task(-1, 0, 0));
        busyRefuses("task(0, 4, 0)", BEYOND, x -> x.task(0, 4, 0));
        busyRefuses("task(0, 2, 0)", MISSING, x -> x.task(0, 2, 0));
        busyRefuses("task(0, 0, 4)", BEYOND, x -> x.task(0, 0, 4));
        busyRefuses("task(0, 0, -1)", BEYOND, x -> x.task(0, 0, -1));
        busyRefuses("task(1, 1, 5)", SIZE, x -> x.task(1, 1, 5));
        busyRefuses("as(4, 0)", BEYOND, x -> x.as(4, 0));
        busyRefuses("as(0, 5)", BEYOND, x -> x.as(0, 5));
        busyRefuses("as(0, 1)", KIND, x -> x.as(0, 1));
        busyRefuses("ask(4, 0)", BEYOND, x -> x.ask(4, 0));
        busyRefuses("ask(0, 6)", BEYOND, x -> x.ask(0, 6));
        busyRefuses("span(4, 5)", BEYOND, x -> x.span(4, 5));
        busyRefuses("span(0, 1)", BEYOND, x -> x.span(0, 1));
        busyRefuses("span(0, 6)", BEYOND, x -> x.span(0, 6));
        busyRefuses("early(4, false)", BEYOND, x -> x.early(4, false));
        busyRefuses("early(-1, true)", BEYOND, x -> x.early(-1, true));
    }

    private static void pairsChangeNothing() {
        busyRefuses("after(4, 0)", BEYOND, x -> x.after(4, 0));
        busyRefuses("after(3, -1)", BEYOND, x -> x.after(3, -1));
        busyRefuses("away(4, 0)", BEYOND, x -> x.away(4, 0));
        busyRefuses("away(1, -1)", BEYOND, x -> x.away(1, -1));
        busyRefuses("away(0, 1)", NONE, x -> x.away(0, 1));
        busyRefuses("away(2, 0)", NONE, x -> x.away(2, 0));
        busyRefuses("follows(4, 0)", BEYOND, x -> x.follows(4, 0));
        busyRefuses("follows(0, 4)", BEYOND, x -> x.follows(0, 4));
        busyRefuses("order(4)", NONE, x -> x.order(4));
        busyRefuses("order(-1)", NONE, x -> x.order(-1));
    }

    private static void lengthsChangeNothing() {
        busyRefuses("cheapest(9, 0)", SIZE, x -> x.cheapest(9, 0));
        busyRefuses("cheapest(9, 1001)", SIZE, x -> x.cheapest(9, 1001));
        busyRefuses("cheapest(8, 1)", SHORT, x -> x.cheapest(8, 1));
        busyRefuses("slope(8)", SHORT, x -> x.slope(8));
        busyRefuses("slope(1001)", BEYOND, x -> x.slope(1001));
        busyRefuses("bend(-1)", NONE, x -> x.bend(-1));
        busyRefuses("bend(9)", NONE, x -> x.bend(9));
        busyRefuses("within(26)", NONE, x -> x.within(26));
        busyRefuses("plan(8)", SHORT, x -> x.plan(8));
        busyRefuses("plan(1001)", BEYOND, x -> x.plan(1001));
        busyRefuses("planned(4, false)", BEYOND, x -> x.planned(4, false));
        busyRefuses("planned(-1, true)", BEYOND, x -> x.planned(-1, true));
        busyRefuses("hurried(8, false)", SHORT, x -> x.hurried(8, false));
        busyRefuses("hurried(1001, true)", BEYOND, x -> x.hurried(1001, true));
        busyRefuses("told(7)", BEYOND, x -> x.told(7));
        busyRefuses("told(-1)", BEYOND, x -> x.told(-1));
    }

    private static void noneAndFullChangeNothing() {
        refuses("task(1, 0, 0) of full", FULL, RefusalEdges::full, x -> x.task(1, 0, 0));
        refuses("tell(0) of full", FULL, RefusalEdges::full, x -> x.tell(0));
        refuses("planned(0, true) of full", NONE, RefusalEdges::full, x -> x.planned(0, true));
        refuses("cost() of full", NONE, RefusalEdges::full, x -> x.cost());
        refuses("undo() of a new one", NONE, BarnBench::new, x -> x.undo());
        refuses("back() of a new one", NONE, BarnBench::new, x -> x.back());
        refuses("back() of a row", NONE, Edges::row, x -> x.back());
        refuses("planned(0, true) of a new one", NONE, BarnBench::new, x -> x.planned(0, true));
        refuses("cost() of a new one", NONE, BarnBench::new, x -> x.cost());
        refuses("order(0) of a new one", NONE, BarnBench::new, x -> x.order(0));
        refuses("plan(-1) of a new one", SHORT, BarnBench::new, x -> x.plan(-1));
    }

    /** A RING leaves its bits, and check() has no numbers any more whatever it answers. */
    private static void whereTold() {
        busyRefuses("after(0, 1)", RING, x -> x.after(0, 1));
        busyRefuses("after(3, 3)", RING, x -> x.after(3, 3));
        BarnBench x = busy();
        due("after(0, 1)", x.after(0, 1), RING);
        due("after(0, 1): bits of the ring", x.told(0), 0b0011);
        BarnBench asked = busy();
        BarnBench alike = busy();
        due("check(8)", asked.check(8), SHORT);
        due("check(12)", alike.check(12), 0);
        due("check(8): findings that it counts", asked.told(6) - alike.told(6), 1);
        areAlike("check(8), then", asked, alike);
    }

    /** Calls that only ask leave all as it was, too; none of these is refused. */
    private static void asksChangeNothing() {
        BarnBench asked = busy();
        BarnBench alike = busy();
        asked.as(0, 0);
        asked.ask(0, 5);
        asked.follows(0, 3);
        asked.order(3);
        asked.length();
        asked.early(0, true);
        asked.tight();
        asked.toldCost();
        asked.longest(true);
        asked.longest(false);
        asked.cheapest(19, 2);
        asked.slope(1000);
        asked.bends();
        asked.bend(0);
        asked.planned(3, true);
        asked.cost();
        asked.hurried(9, false);
        asked.hurried(1000, true);
        asked.told(6);
        due("calls that ask: findings", asked.told(6), alike.told(6));
        areAlike("calls that ask", asked, alike);
    }
}
