/** Tasks, their kinds and numbers: promises 5, 8 and 9. */
final class TaskEdges extends Edges {
    private static final String[] NAMES = {"e", "h", "p", "k or r", "m"};
    /** The greatest numbers of each kind. */
    private static final long[][] GREATEST = {{60, 60, 100000}, {60}, {60, 60, 100000, 60, 100000}, {60},
        {60, 60, 100000, 100000}};
    private static final int[] NO_KINDS = {LEAST, -1, 5, MOST};

    static void all() {
        newTask();
        taskFromBothBits();
        taskBeyond();
        taskNotSoMany();
        taskSizes();
        taskFull();
        asKinds();
        askNumbers();
    }

    private static void newTask() {
        promise(5, "A new task of a kind; its numbers are those of a board from one on: its number.");
        BarnBench x = new BarnBench();
        for (int kind = 0; kind < 5; kind++) {
            lay(x, 0, 64, 61, 61, 61, 61, 61, 61, 61);
            int at = 7 - TAKEN[kind];
            for (int i = 0; i < TAKEN[kind]; i++) {
                x.put(0, at + i, 9 - i);
            }
            due("its number", x.task(kind, 0, at), kind);
            due("its kind", x.ask(kind, 0), kind);
            due("e of kind " + kind, x.ask(kind, 1), 9);
            due("h of kind " + kind, x.ask(kind, 2), TAKEN[kind] > 1 ? 8 : 9);
            due("p of kind " + kind, x.ask(kind, 3), TAKEN[kind] > 2 ? 7 : 0);
            due("k or r of kind " + kind, x.ask(kind, 4), TAKEN[kind] > 3 ? 6 : 0);
            due("m of kind " + kind, x.ask(kind, 5), TAKEN[kind] > 4 ? 5 : 0);
            due("tasks", x.told(2), kind + 1);
            due("its told span is e", x.span(kind, 9), 9);
            due("it follows none", x.told(3), 0);
        }
        x.board(0, 0, 0);
        due("it stays when the board is MISSING", x.ask(0, 1), 9);
        due("numbers behind its own may be any", add(x, 1, 5, 99, 999999, -1, -1), 5);
        due("so of TASK", add(x, 0, 5, 5, 5, -1, -1), 6);
        due("so of RENTED", add(x, 4, 5, 5, 5, 5, -1), 7);
        due("so of WAIT", add(x, 3, 5, -1), 8);
    }

    private static void taskFromBothBits() {
        BarnBench x = new BarnBench();
        for (int b = 0; b < 4; b++) {
            lay(x, b, b % 2 == 0 ? 32 : 64, 50 + b, b, 10 + b);
        }
        for (int b = 0; b < 4; b++) {
            due("from board " + b, x.task(0, b, 0), b);
            due("e from board " + b, x.ask(b, 1), 50 + b);
            due("h from board " + b, x.ask(b, 2), b);
            due("p from board " + b, x.ask(b, 3), 10 + b);
        }
    }

    private static void taskBeyond() {
        promise(5, "BEYOND: kind is not 0 to 4, or no such board.");
        BarnBench x = new BarnBench();
        x.board(0, 32, 24);
        x.board(3, 32, 24);
        for (int kind : NO_KINDS) {
            due("kind " + kind, x.task(kind, 0, 0), BEYOND);
        }
        for (int kind = 0; kind < 5; kind++) {
            due("board 4, kind " + kind, x.task(kind, 4, 0), BEYOND);
            due("board -1, kind " + kind, x.task(kind, -1, 0), BEYOND);
        }
        due("the least board", x.task(0, LEAST, 0), BEYOND);
        due("the greatest board", x.task(0, MOST, 0), BEYOND);
        due("no task came", x.told(2), 0);
        due("kind 0, board 0", x.task(0, 0, 0), 0);
        due("kind 4, board 3", x.task(4, 3, 0), 1);

        promise(5, "MISSING.");
        due("never laid", x.task(0, 1, 0), MISSING);
        x.board(0, 0, 0);
        due("taken off", x.task(1, 0, 0), MISSING);
        due("whatever at is", x.task(1, 0, -1), MISSING);
        due("whatever at is", x.task(1, 0, MOST), MISSING);
        due("no task came", x.told(2), 2);
    }

    private static void taskNotSoMany() {
        promise(5, "BEYOND: the board has not so many, or at is below 0.");
        BarnBench x = new BarnBench();
        for (int kind = 0; kind < 5; kind++) {
            int taken = TAKEN[kind];
            x.board(0, 32, taken - 1);
            due("one too few for kind " + kind, x.task(kind, 0, 0), BEYOND);
            x.board(0, 32, taken);
            due("from 1 on one too few for kind " + kind, x.task(kind, 0, 1), BEYOND);
            due("from -1 on, kind " + kind, x.task(kind, 0, -1), BEYOND);
            due("from the least on, kind " + kind, x.task(kind, 0, LEAST), BEYOND);
            due("from the greatest on, kind " + kind, x.task(kind, 0, MOST), BEYOND);
            due("from where it would wrap, kind " + kind, x.task(kind, 0, MOST - taken + 1), BEYOND);
            due("behind the last, kind " + kind, x.task(kind, 0, taken), BEYOND);
            due("as many as kind " + kind + " takes", x.task(kind, 0, 0), 2 * kind);
            x.board(0, 32, 24);
            due("one too far on a full board, kind " + kind, x.task(kind, 0, 25 - taken), BEYOND);
            due("the last of a full board, kind " + kind, x.task(kind, 0, 24 - taken), 2 * kind + 1);
        }
        due("tasks", x.told(2), 10);
    }

    private static void taskSizes() {
        promise(5, "SIZE: one of them is not in its bounds.");
        for (int kind = 0; kind < 5; kind++) {
            BarnBench x = new BarnBench();
            due("all the least, kind " + kind, add(x, kind, new long[TAKEN[kind]]), 0);
            due("all the greatest, kind " + kind, add(x, kind, GREATEST[kind]), 1);
            for (int i = 0; i < TAKEN[kind]; i++) {
                String name = NAMES[i] + " of kind " + kind;
                long most = GREATEST[kind][i];
                due(name + " just below", addWith(x, kind, i, -1), SIZE);
                due(name + " just above", addWith(x, kind, i, most + 1), SIZE);
                due(name + " the least of 64 bits", addWith(x, kind, i, Long.MIN_VALUE), SIZE);
                due(name + " the greatest of 64 bits", addWith(x, kind, i, Long.MAX_VALUE), SIZE);
                due(name + " with 32 more bits", addWith(x, kind, i, (1L << 32) + most), SIZE);
                due("no task came", x.told(2), 2);
            }
        }
        BarnBench x = new BarnBench();
        due("h just above e", add(x, 0, 7, 8, 0), SIZE);
        due("h as e", add(x, 0, 7, 7, 0), 0);
        due("h just above e of 0", add(x, 0, 0, 1, 0), SIZE);
        due("h just above e, STEPPED", add(x, 2, 7, 8, 0, 0, 0), SIZE);
        due("h as e, STEPPED", add(x, 2, 7, 7, 0, 0, 0), 1);
        due("h just above e, RENTED", add(x, 4, 7, 8, 0, 0), SIZE);
        due("h as e, RENTED", add(x, 4, 7, 7, 0, 0), 2);
        due("k may be above e", add(x, 2, 7, 7, 0, 60, 0), 3);
        due("r may be above p", add(x, 4, 7, 7, 0, 100000), 4);
    }

    /** The greatest numbers of a kind, but for one; h is 0 where it is not that one, to be below any e. */
    private static int addWith(BarnBench x, int kind, int i, long v) {
        long[] numbers = GREATEST[kind].clone();
        if (numbers.length > 1) {
            numbers[1] = 0;
        }
        numbers[i] = v;
        return add(x, kind, numbers);
    }

    private static void taskFull() {
        promise(5, "FULL: there are 12.");
        for (int kind = 0; kind < 5; kind++) {
            BarnBench x = many(11, kind, GREATEST[kind]);
            due("tasks", x.told(2), 11);
            due("the twelfth of kind " + kind, x.task(kind, 3, 0), 11);
            due("the thirteenth of kind " + kind, x.task(kind, 3, 0), FULL);
            due("tasks", x.told(2), 12);
            due("undone", x.undo(), 11);
            due("there is room again", x.task(kind, 3, 0), 11);
            due("and no more", x.task(kind, 3, 0), FULL);
        }
    }

    private static BarnBench oneOfEachKind() {
        BarnBench x = new BarnBench();
        add(x, 0, 5, 2, 3);
        add(x, 1, 6);
        add(x, 2, 7, 1, 2, 3, 4);
        add(x, 3, 8);
        add(x, 4, 9, 4, 5, 6);
        return x;
    }

    private static void asKinds() {
        String[] uppers = {"0", "01", "02", "013", "04"};
        BarnBench x = oneOfEachKind();
        for (int task = 0; task < 5; task++) {
            for (int kind = 0; kind < 5; kind++) {
                boolean is = uppers[task].indexOf('0' + kind) >= 0;
                promise(8, is ? "A task as one of a kind: its number."
                    : "KIND: it is not of that kind, nor of one under it.");
                due("one of kind " + task + " as " + kind, x.as(task, kind), is ? task : KIND);
            }
        }
        promise(8, "BEYOND: no such task, or kind is not 0 to 4.");
        int[] noTasks = {LEAST, -1, 5, 12, MOST};
        for (int task : noTasks) {
            due("task " + task, x.as(task, 0), BEYOND);
        }
        for (int kind : NO_KINDS) {
            due("kind " + kind, x.as(4, kind), BEYOND);
        }
        due("without tasks", new BarnBench().as(0, 0), BEYOND);
        due("the first", x.as(0, 0), 0);
        due("the last", x.as(4, 4), 4);
    }

    private static void askNumbers() {
        promise(9, "Of a task: 0 its kind, 1 e, 2 h, 3 p, 4 k or r (0 of other kinds), 5 m (0 of other kinds).");
        int[][] all = {{0, 5, 2, 3, 0, 0}, {1, 6, 6, 0, 0, 0}, {2, 7, 1, 2, 3, 4}, {3, 8, 8, 0, 0, 0},
            {4, 9, 4, 5, 6, 0}};
        BarnBench x = oneOfEachKind();
        for (int task = 0; task < 5; task++) {
            for (int what = 0; what < 6; what++) {
                due("task " + task + ", what " + what, x.ask(task, what), all[task][what]);
            }
        }
        // Places that other kinds had taken are used again, so what was left there would show.
        x = many(1, 2, 60, 0, 100000, 60, 100000);
        due("the greatest k", x.ask(0, 4), 60);
        due("the greatest m", x.ask(0, 5), 100000);
        x.undo();
        add(x, 4, 60, 0, 100000, 100000);
        due("the greatest r", x.ask(0, 4), 100000);
        due("no m of RENTED", x.ask(0, 5), 0);
        x.undo();
        add(x, 1, 60);
        due("h is e of FIXED", x.ask(0, 2), 60);
        due("no p of FIXED", x.ask(0, 3), 0);
        due("no k of FIXED", x.ask(0, 4), 0);

        promise(9, "BEYOND: no such task, or another what.");
        x = oneOfEachKind();
        int[] noTasks = {LEAST, -1, 5, 12, MOST};
        for (int task : noTasks) {
            due("task " + task, x.ask(task, 0), BEYOND);
        }
        int[] noWhats = {LEAST, -1, 6, MOST};
        for (int what : noWhats) {
            due("what " + what, x.ask(0, what), BEYOND);
        }
        due("without tasks", new BarnBench().ask(0, 0), BEYOND);
        x = many(12, 3, 1);
        due("the twelfth", x.ask(11, 0), 3);
        due("the thirteenth", x.ask(12, 0), BEYOND);
        x.undo();
        due("one that is undone", x.ask(11, 0), BEYOND);
    }
}
