/** Undoing, keeping and what is told of the whole: promises 29 to 32. */
final class WholeEdges extends Edges {
    static void all() {
        undoEachAct();
        undoWhatWasDone();
        undoAndDoAgain();
        undoNone();
        undoThirty();
        undoThirtyOfAllActs();
        undoAndPlans();
        keeps();
        backs();
        backAndTheRest();
        backFindings();
        toldNumbers();
        toldFindings();
        toldBeyond();
    }

    private static void undoEachAct() {
        promise(29, "The latest task(), after(), away() or span() that was done is undone: how many more can be.");
        BarnBench x = row();
        x.away(2, 1);
        x.span(0, 2);
        x.after(2, 0);
        due("after()", x.undo(), 7);
        due("it follows it no more", x.follows(2, 0), 0);
        due("the told span stays", x.length(), 7);
        due("span()", x.undo(), 6);
        due("the told span is as it was", x.length(), 10);
        due("away()", x.undo(), 5);
        due("it follows it again", x.follows(2, 1), 1);
        due("after()", x.undo(), 4);
        due("after()", x.undo(), 3);
        due("pairs", x.told(3), 0);
        due("task()", x.undo(), 2);
        due("tasks", x.told(2), 2);
        due("no such task", x.ask(2, 0), BEYOND);
        due("the others stay", x.ask(1, 1), 5);
        due("task()", x.undo(), 1);
        due("task()", x.undo(), 0);
        due("tasks", x.told(2), 0);
        due("no length", x.length(), 0);
    }

    private static void undoWhatWasDone() {
        BarnBench x = row();
        x.span(0, 4);
        x.span(0, 3);
        x.span(0, 3);
        x.span(0, 6);
        x.after(0, 2);
        x.after(0, 9);
        x.away(0, 1);
        x.task(0, 0, 0);
        x.board(0, 32, 1);
        x.put(0, 0, 7);
        x.plan(12);
        x.keep();
        x.tell(3);
        x.within(1);
        due("a span told as it was", x.undo(), 7);
        due("told span", x.length(), 13);
        due("the one ahead", x.undo(), 6);
        due("told span", x.length(), 14);
        due("the first", x.undo(), 5);
        due("told span", x.length(), 15);
        due("boards stay", read(x, 0, 0), 7);
        due("numbers wait on", x.told(4), 1);
        due("bits of a ring stay", x.told(0), 7);
        due("what was below stays", x.told(1), 3);
        due("what was kept stays", x.back(), 3);
        due("with its told spans", x.length(), 13);
        x = row();
        x.after(2, 1);
        due("one that it followed already", x.undo(), 5);
        due("it follows it still", x.follows(2, 1), 1);
    }

    private static void undoAndDoAgain() {
        BarnBench x = many(2, 0, 9, 3, 1);
        x.after(1, 0);
        x.span(1, 4);
        x.undo();
        x.undo();
        x.undo();
        due("a task comes again", x.task(0, 3, 0), 1);
        due("it follows none", x.follows(1, 0), 0);
        due("its told span is e", x.span(1, 4), 9);
        due("as many can be undone", x.undo(), 2);
        x = many(12, 0, 9, 3, 1);
        due("the twelfth", x.undo(), 11);
        due("tasks", x.told(2), 11);
        due("no twelfth", x.ask(11, 0), BEYOND);
        due("the eleventh", x.ask(10, 1), 9);
    }

    private static void undoNone() {
        promise(29, "NONE.");
        BarnBench x = new BarnBench();
        due("nothing was done", x.undo(), NONE);
        x.board(0, 32, 3);
        x.put(0, 0, 5);
        x.plan(0);
        x.keep();
        x.tell(1);
        due("nothing that can be undone was done", x.undo(), NONE);
        x.task(0, 0, 1);
        x.undo();
        due("all was undone", x.undo(), NONE);
        due("and still", x.undo(), NONE);
    }

    private static void spansOf(BarnBench x, int count) {
        for (int i = 0; i < count; i++) {
            x.span(0, i);
        }
    }

    /** Acts are one task and spans of 0, 1, .. of it: of more than 30 the oldest stay done. */
    private static void undoThirty() {
        promise(29, "(The latest 30 are kept.");
        int[] acts = {1, 2, 29, 30, 31, 32, 60, 61};
        for (int count : acts) {
            BarnBench x = one(0, 60, 0, 1);
            spansOf(x, count - 1);
            for (int left = Math.min(count, 30) - 1; left >= 0; left--) {
                due("of " + count + " acts", x.undo(), left);
            }
            due("of " + count + " acts no more", x.undo(), NONE);
            due("tasks that stay of " + count + " acts", x.told(2), count > 30 ? 1 : 0);
            due("the told span that stays of " + count + " acts", x.length(),
                count <= 30 ? 0 : count == 31 ? 60 : count - 32);
        }
        BarnBench x = one(0, 60, 0, 1);
        spansOf(x, 40);
        due("one of 41", x.undo(), 29);
        x.span(0, 50);
        due("one in its place", x.undo(), 29);
        x.span(0, 50);
        x.span(0, 51);
        due("30 again", x.undo(), 29);
        due("the last but one", x.length(), 50);
    }

    private static void undoThirtyOfAllActs() {
        BarnBench x = inRow(many(12, 0, 60, 0, 1));
        for (int task = 0; task < 7; task++) {
            x.span(task, 59);
        }
        for (int left = 29; left >= 0; left--) {
            due("12 tasks, 11 pairs, 7 spans", x.undo(), left);
        }
        due("no more", x.undo(), NONE);
        due("no task stays", x.told(2), 0);
        x = inRow(many(12, 0, 60, 0, 1));
        for (int task = 0; task < 6; task++) {
            x.span(task, 59);
        }
        x.away(11, 10);
        x.after(11, 0);
        for (int left = 29; left >= 0; left--) {
            due("one more", x.undo(), left);
        }
        due("no more", x.undo(), NONE);
        due("the oldest task stays", x.told(2), 1);
        due("it is as it was", x.length(), 60);
    }

    private static void undoAndPlans() {
        promise(29, "A plan that was made is none then, if it was not span().)");
        BarnBench x = row();
        x.span(0, 3);
        x.plan(12);
        x.undo();
        due("span()", x.told(5), 1);
        due("span()", x.planned(0, true), 2);
        x.after(2, 0);
        x.plan(12);
        x.undo();
        due("after()", x.told(5), 0);
        due("after()", x.planned(0, true), NONE);
        x.after(2, 1);
        x.plan(12);
        x.undo();
        due("after() that changed nothing", x.told(5), 0);
        x.away(2, 1);
        x.plan(12);
        x.undo();
        due("away()", x.told(5), 0);
        due("away()", x.cost(), NONE);
        due("the plan of what is now", x.plan(12), 12);
        add(x, 1, 20);
        x.plan(20);
        x.undo();
        due("task()", x.told(5), 0);
        due("task()", x.cost(), NONE);
        due("the plan of what is now", x.plan(20), 15);
        BarnBench y = new BarnBench();
        y.plan(0);
        y.undo();
        due("nothing was undone", y.told(5), 1);
    }

    private static void keeps() {
        promise(30, "Tasks, what they follow, and told spans are kept, in place of what was: how many tasks.");
        BarnBench x = new BarnBench();
        due("no tasks", x.keep(), 0);
        x = row();
        x.span(0, 3);
        x.plan(12);
        x.tell(1);
        due("three tasks", x.keep(), 3);
        due("tasks stay", x.told(2), 3);
        due("a plan stays", x.planned(0, true), 2);
        due("numbers wait on", x.told(4), 1);
        x.span(0, 2);
        x.away(1, 0);
        add(x, 1, 9);
        x.back();
        due("tasks are kept", x.told(2), 3);
        due("what they follow is kept", x.follows(1, 0), 1);
        due("told spans are kept", x.span(0, 4), 3);
        due("in place of what was", x.keep(), 3);
        x.span(0, 2);
        x.back();
        due("in place of what was", x.span(0, 5), 4);
        x = many(12, 0, 9, 3, 1);
        due("twelve tasks", x.keep(), 12);
        due("undo goes on", x.undo(), 11);
        due("fewer in place of more", x.keep(), 11);
        due("fewer in place of more", x.back(), 11);
    }

    private static void backs() {
        promise(31, "These are as they were kept: how many tasks.");
        BarnBench x = row();
        x.span(2, 4);
        x.keep();
        due("nothing changed", x.back(), 3);
        due("told spans", x.length(), 14);
        add(x, 4, 9, 1, 6, 3);
        x.after(3, 2);
        x.after(2, 0);
        x.away(1, 0);
        x.span(2, 2);
        due("more came", x.back(), 3);
        due("tasks", x.told(2), 3);
        due("pairs", x.told(3), 2);
        due("the one that was away", x.follows(1, 0), 1);
        due("the one that came", x.follows(2, 0), 2);
        due("told spans", x.length(), 14);
        due("told cost", x.toldCost(), 3);
        due("bends", x.bends(), 3);
        due("cheapest", x.cheapest(12, 1), 9);
        due("no such task", x.ask(3, 0), BEYOND);
        due("again", x.back(), 3);
        backInPlaceOfOthers();
        backToNoneAndAll();
    }

    /** Other tasks stand in the places of those that were kept, so that each number must come back. */
    private static void backInPlaceOfOthers() {
        int[][] all = {{0, 5, 2, 3, 0, 0}, {1, 6, 6, 0, 0, 0}, {2, 7, 1, 2, 3, 4}, {3, 8, 8, 0, 0, 0},
            {4, 9, 4, 5, 6, 0}};
        BarnBench x = new BarnBench();
        add(x, 0, 5, 2, 3);
        add(x, 1, 6);
        add(x, 2, 7, 1, 2, 3, 4);
        add(x, 3, 8);
        add(x, 4, 9, 4, 5, 6);
        x.after(4, 0);
        x.span(2, 1);
        x.keep();
        for (int i = 0; i < 7; i++) {
            x.undo();
        }
        for (int task = 0; task < 6; task++) {
            add(x, task == 2 ? 4 : 2, 60, 50, 40, 30, 20);
        }
        inRow(x);
        due("fewer than stand there", x.back(), 5);
        for (int task = 0; task < 5; task++) {
            for (int what = 0; what < 6; what++) {
                due("task " + task + ", what " + what, x.ask(task, what), all[task][what]);
            }
        }
        due("pairs", x.told(3), 1);
        due("the pair", x.follows(4, 0), 1);
        due("the told span", x.span(2, 7), 1);
        due("another told span", x.span(4, 9), 9);
    }

    private static void backToNoneAndAll() {
        BarnBench x = new BarnBench();
        x.keep();
        add(x, 1, 9);
        due("no tasks", x.back(), 0);
        due("no tasks", x.told(2), 0);
        x = inRow(many(12, 0, 9, 3, 1));
        x.keep();
        for (int i = 0; i < 23; i++) {
            x.undo();
        }
        due("none is left", x.told(2), 0);
        due("twelve tasks", x.back(), 12);
        due("eleven pairs", x.told(3), 11);
        due("full", x.task(0, 3, 0), FULL);
    }

    private static void backAndTheRest() {
        BarnBench x = row();
        x.keep();
        x.board(0, 32, 1);
        x.put(0, 0, 7);
        x.tell(4);
        x.after(0, 2);
        x.within(1);
        x.back();
        due("boards stay", read(x, 0, 0), 7);
        due("numbers wait on", x.told(4), 1);
        due("bits of a ring stay", x.told(0), 7);
        due("what was below stays", x.told(1), 3);
        due("findings stay counted", x.told(6), 1);
    }

    private static void backFindings() {
        promise(31, "NONE: nothing was kept.");
        BarnBench x = new BarnBench();
        due("at first", x.back(), NONE);
        x = row();
        x.span(0, 3);
        x.plan(12);
        due("tasks came", x.back(), NONE);
        due("tasks stay", x.told(2), 3);
        due("the plan stays", x.told(5), 1);
        due("all can be undone", x.undo(), 5);
        x.keep();
        due("kept", x.back(), 3);

        promise(31, "(Nothing can be undone then, and no plan is made.)");
        due("undo", x.undo(), NONE);
        x.span(0, 3);
        x.plan(12);
        due("a plan is made", x.told(5), 1);
        x.back();
        due("undo", x.undo(), NONE);
        due("no plan", x.told(5), 0);
        due("no plan", x.planned(0, true), NONE);
        due("no plan", x.cost(), NONE);
        x.span(0, 3);
        due("what came since can be", x.undo(), 0);
        due("and no more", x.undo(), NONE);
        due("tasks stay", x.told(2), 3);
    }

    private static final String TOLD = "0 bits of the latest RING (0 at first), 1 what was below in the latest within()"
        + " (1 at first), 2 tasks, 3 how many follow another one, together (each pair is one), 4 numbers that wait,"
        + " 5 whether a plan is made (1, 0), 6 how many acts answered a finding ever (this one, too, if it does).";

    private static void toldNumbers() {
        promise(32, TOLD);
        BarnBench x = new BarnBench();
        int[] first = {0, 1, 0, 0, 0, 0, 0};
        for (int what = 0; what < 7; what++) {
            due("at first, what " + what, x.told(what), first[what]);
        }
        x = many(12, 0, 9, 3, 4);
        due("tasks", x.told(2), 12);
        int pairs = 0;
        for (int task = 1; task < 12; task++) {
            for (int other = 0; other < task; other++) {
                x.after(task, other);
                pairs++;
            }
            due("pairs", x.told(3), pairs);
        }
        x.after(11, 0);
        due("each pair is one", x.told(3), 66);
        x.after(3, 5);
        due("bits of a ring", x.told(0), 0b111000);
        x.after(0, 11);
        due("bits of the latest ring", x.told(0), ALL_TWELVE);
        x.within(1);
        due("what was below", x.told(1), 4);
        x.within(4);
        due("what was below in the latest", x.told(1), 1);
        x.within(2);
        x.within(-1);
        due("what was below in the latest that was", x.told(1), 2);
        x.undo();
        due("bits of a ring stay when an act is undone", x.told(0), ALL_TWELVE);
        due("what was below stays, too", x.told(1), 2);
        x.tell(5);
        due("numbers that wait", x.told(4), 1);
        due("no plan", x.told(5), 0);
        x.plan(40);
        due("a plan", x.told(5), 1);
    }

    private static void toldFindings() {
        BarnBench x = row();
        due("no finding", x.told(6), 0);
        x.check(9);
        x.hurried(9, true);
        x.follows(0, 1);
        due("answers that are none", x.told(6), 0);
        x.told(7);
        due("this one", x.told(6), 1);
        x.told(-1);
        due("another one", x.told(6), 2);
        x.cheapest(9, 0);
        x.slope(8);
        x.within(-1);
        x.cost();
        due("acts that answer a long", x.told(6), 6);
        x.check(8);
        x.after(0, 0);
        due("acts that change what is told", x.told(6), 8);
        x.keep();
        x.undo();
        x.back();
        due("ever", x.told(6), 8);
        due("told(6) counts nothing", x.told(6), 8);
    }

    private static void toldBeyond() {
        promise(32, "BEYOND: another what.");
        BarnBench x = new BarnBench();
        int[] others = {LEAST, -1, 7, MOST};
        for (int what : others) {
            due("told(" + what + ")", x.told(what), BEYOND);
        }
        due("told(0)", x.told(0), 0);
        due("told(6)", x.told(6), 4);
    }
}
