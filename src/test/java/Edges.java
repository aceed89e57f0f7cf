/** What the tests of single sentences share: the findings, ways to build, and the ledger. */
abstract class Edges {
    static final int BEYOND = -1;
    static final int MISSING = -2;
    static final int SIZE = -3;
    static final int KIND = -4;
    static final int FULL = -5;
    static final int RING = -6;
    static final int NONE = -7;
    static final int SHORT = -8;
    static final int LEAST = Integer.MIN_VALUE;
    static final int MOST = Integer.MAX_VALUE;
    /** How many numbers of a board a task of each kind takes. */
    static final int[] TAKEN = {3, 1, 5, 1, 4};
    static final int ALL_TWELVE = 4095;

    static final Ledger LEDGER = new Ledger();

    static void terms(String sentence) {
        LEDGER.holdTo("Terms", sentence);
    }

    static void promise(int number, String sentence) {
        LEDGER.holdTo("Promise " + number, sentence);
    }

    static void due(String what, long got, long want) {
        LEDGER.due(what, got, want);
    }

    static void lay(BarnBench x, int b, int bits, long... numbers) {
        x.board(b, bits, numbers.length);
        for (int i = 0; i < numbers.length; i++) {
            x.put(b, i, numbers[i]);
        }
    }

    /** A new task of a kind with these numbers, by way of board 3. */
    static int add(BarnBench x, int kind, long... numbers) {
        lay(x, 3, 64, numbers);
        return x.task(kind, 3, 0);
    }

    /** Number i of a board if it is 0 to 60, SIZE if it is another one, or what else keeps it from being read. */
    static int read(BarnBench x, int b, int i) {
        int task = x.task(1, b, i);
        if (task < 0) {
            return task;
        }
        int number = x.ask(task, 1);
        x.undo();
        return number;
    }

    static BarnBench one(int kind, long... numbers) {
        BarnBench x = new BarnBench();
        add(x, kind, numbers);
        return x;
    }

    /** As many equal tasks, none of which follows another one. */
    static BarnBench many(int count, int kind, long... numbers) {
        BarnBench x = new BarnBench();
        lay(x, 3, 64, numbers);
        for (int task = 0; task < count; task++) {
            x.task(kind, 3, 0);
        }
        return x;
    }

    /** Each task follows the one that came ahead of it. */
    static BarnBench inRow(BarnBench x) {
        int count = x.told(2);
        for (int task = 1; task < count; task++) {
            x.after(task, task - 1);
        }
        return x;
    }

    /**
     * TASK 5 2 3, FIXED 5, STEPPED 5 2 3 2 4, in a row. SHORTEST is 9; from 9 to 16 the least costs
     * are 22, 15, 12, 9, 6, 3, 0, 0.
     */
    static BarnBench row() {
        BarnBench x = new BarnBench();
        add(x, 0, 5, 2, 3);
        add(x, 1, 5);
        add(x, 2, 5, 2, 3, 2, 4);
        return inRow(x);
    }
}
