/** A new object, and boards: promises 1 to 4. */
final class BoardEdges extends Edges {
    private static final long WIDE = 1L << 32;

    static void all() {
        newObject();
        newObjectBesideAnother();
        boardHasNumbers();
        boardOfBitsNone();
        boardFindings();
        putNumber();
        putLowestBits();
        putFindings();
        copyNumbers();
        copyWithinOne();
        copyFindings();
        copyNotSoMany();
    }

    private static void newObject() {
        promise(1, "No tasks; all boards are MISSING; no plan.");
        isNew(new BarnBench());
    }

    private static void isNew(BarnBench x) {
        due("tasks", x.told(2), 0);
        due("pairs", x.told(3), 0);
        due("order(0)", x.order(0), NONE);
        due("ask(0, 0)", x.ask(0, 0), BEYOND);
        due("length()", x.length(), 0);
        for (int b = 0; b < 4; b++) {
            due("put to board " + b, x.put(b, 0, 0), MISSING);
            due("copy of board " + b, x.copy(b, 0, b, 0, 0), MISSING);
            due("task from board " + b, x.task(3, b, 0), MISSING);
        }
        due("whether a plan is made", x.told(5), 0);
        due("planned(0, false)", x.planned(0, false), NONE);
        due("cost()", x.cost(), NONE);
        due("numbers that wait", x.told(4), 0);
        due("undo()", x.undo(), NONE);
        due("back()", x.back(), NONE);
        due("bits of a ring", x.told(0), 0);
        due("what was below", x.told(1), 1);
        due("findings until now", x.told(6), 18);
    }

    private static void newObjectBesideAnother() {
        BarnBench busy = row();
        busy.board(0, 32, 4);
        busy.after(0, 0);
        busy.within(1);
        busy.plan(12);
        busy.tell(1);
        busy.keep();
        isNew(new BarnBench());
        due("the other one's tasks stay", busy.told(2), 3);
    }

    private static void boardHasNumbers() {
        promise(2, "A board has n numbers, all 0, of 32 or 64 bits; bits 0: it is MISSING: n (0).");
        for (int bits = 32; bits <= 64; bits += 32) {
            BarnBench x = new BarnBench();
            for (int b = 0; b < 4; b++) {
                due("no numbers on board " + b, x.board(b, bits, 0), 0);
                due("no first number, but a board " + b, x.put(b, 0, 0), BEYOND);
                due("one number on board " + b, x.board(b, bits, 1), 1);
                due("the one is 0", read(x, b, 0), 0);
                due("no second one", read(x, b, 1), BEYOND);
                due("24 numbers on board " + b, x.board(b, bits, 24), 24);
            }
            for (int i = 0; i < 24; i++) {
                due("number " + i + " is 0", read(x, i % 4, i), 0);
                x.put(i % 4, i, 60);
            }
            due("number 24", read(x, 3, 24), BEYOND);
            x.board(3, 96 - bits, 24);
            due("again all 0, of other bits", read(x, 3, 23), 0);
            x.board(2, bits, 24);
            due("again all 0, of the same bits", read(x, 2, 22), 0);
            due("other boards stay", read(x, 1, 21), 60);
            x.board(0, bits, 4);
            x.board(0, bits, 24);
            due("again all 0, behind those of a shorter one too", read(x, 0, 20), 0);
        }
        bitsOfBoards();
    }

    private static void bitsOfBoards() {
        BarnBench x = new BarnBench();
        x.board(0, 32, 1);
        x.board(1, 64, 1);
        x.put(0, 0, WIDE + 7);
        x.put(1, 0, WIDE + 7);
        due("32 bits", read(x, 0, 0), 7);
        due("64 bits", read(x, 1, 0), SIZE);
    }

    private static void boardOfBitsNone() {
        BarnBench x = new BarnBench();
        due("MISSING already", x.board(0, 0, 0), 0);
        due("still MISSING", x.put(0, 0, 0), MISSING);
        x.board(0, 32, 24);
        due("n of none is 0", x.board(0, 0, 24), 0);
        due("MISSING", x.put(0, 0, 0), MISSING);
        x.board(1, 64, 24);
        due("n of none is 0", x.board(1, 0, 1), 0);
        due("MISSING", read(x, 1, 0), MISSING);
        due("it can be laid again", x.board(1, 64, 2), 2);
        due("all 0", read(x, 1, 1), 0);
    }

    private static void boardFindings() {
        promise(2, "BEYOND: no such board, or bits.");
        BarnBench x = new BarnBench();
        int[] noBoards = {LEAST, -1, 4, MOST};
        for (int b : noBoards) {
            due("board " + b, x.board(b, 32, 1), BEYOND);
            due("board " + b + " of none", x.board(b, 0, 0), BEYOND);
        }
        due("board 0", x.board(0, 32, 1), 1);
        due("board 3", x.board(3, 32, 1), 1);
        int[] noBits = {LEAST, -64, -32, -1, 1, 8, 16, 31, 33, 48, 63, 65, 96, 128, MOST};
        for (int bits : noBits) {
            due("bits " + bits, x.board(0, bits, 1), BEYOND);
        }
        due("the board stays", read(x, 0, 0), 0);

        promise(2, "SIZE: n is below 0.");
        due("n -1", x.board(0, 32, -1), SIZE);
        due("n -1 of 64 bits", x.board(3, 64, -1), SIZE);
        due("n the least", x.board(0, 32, LEAST), SIZE);
        due("n -1, bits 0", x.board(0, 0, -1), SIZE);
        due("n 0", x.board(1, 32, 0), 0);
        due("the board stays", read(x, 0, 0), 0);

        promise(2, "BEYOND: n is above 24.");
        due("n 24", x.board(1, 64, 24), 24);
        due("n 25", x.board(0, 32, 25), BEYOND);
        due("n 25 of 64 bits", x.board(0, 64, 25), BEYOND);
        due("n the greatest", x.board(0, 32, MOST), BEYOND);
        due("n 25, bits 0", x.board(0, 0, 25), BEYOND);
        due("n 24, bits 0", x.board(1, 0, 24), 0);
        due("the board stays", read(x, 0, 0), 0);
    }

    private static void putNumber() {
        promise(3, "Number i of a board becomes v (its lowest bits): 0.");
        BarnBench x = new BarnBench();
        x.board(0, 32, 24);
        x.board(3, 64, 24);
        due("the first", x.put(0, 0, 11), 0);
        due("the last", x.put(0, 23, 12), 0);
        due("the first of 64 bits", x.put(3, 0, 13), 0);
        due("the last of 64 bits", x.put(3, 23, 14), 0);
        due("the first", read(x, 0, 0), 11);
        due("its neighbour stays", read(x, 0, 1), 0);
        due("the last", read(x, 0, 23), 12);
        due("its neighbour stays", read(x, 0, 22), 0);
        due("the first of 64 bits", read(x, 3, 0), 13);
        due("the last of 64 bits", read(x, 3, 23), 14);
        x.put(0, 0, 60);
        due("in place of what was", read(x, 0, 0), 60);
        x.put(0, 0, 0);
        due("0 in place of what was", read(x, 0, 0), 0);
        x.put(0, 0, 9);
        int task = x.task(1, 0, 0);
        x.put(0, 0, 10);
        due("a task keeps the number that it came with", x.ask(task, 1), 9);
    }

    private static void putLowestBits() {
        long[] values = {WIDE, WIDE + 60, -WIDE + 60, (5L << 40) + 9, Long.MIN_VALUE, Long.MIN_VALUE + 60};
        int[] lowest = {0, 60, 60, 9, 0, 60};
        BarnBench x = new BarnBench();
        x.board(0, 32, 1);
        x.board(1, 64, 1);
        for (int i = 0; i < values.length; i++) {
            due("32 bits take " + values[i], x.put(0, 0, values[i]), 0);
            due("lowest 32 bits of " + values[i], read(x, 0, 0), lowest[i]);
            due("64 bits take " + values[i], x.put(1, 0, values[i]), 0);
            due("all 64 bits of " + values[i], read(x, 1, 0), SIZE);
        }
        long[] none = {-1, MOST, 1L << 31, WIDE - 1, Long.MAX_VALUE, LEAST, 61, WIDE + 61};
        for (long v : none) {
            due("32 bits take " + v, x.put(0, 0, v), 0);
            due("lowest 32 bits of " + v + " are no span", read(x, 0, 0), SIZE);
        }
        lay(x, 2, 32, 60, 0, WIDE + 100000);
        x.task(0, 2, 0);
        due("lowest 32 bits of a price", x.ask(0, 3), 100000);
    }

    private static void putFindings() {
        promise(3, "BEYOND: no such board.");
        BarnBench x = new BarnBench();
        x.board(0, 32, 3);
        x.board(3, 64, 24);
        int[] noBoards = {LEAST, -1, 4, MOST};
        for (int b : noBoards) {
            due("board " + b, x.put(b, 0, 1), BEYOND);
        }
        due("board 0", x.put(0, 0, 1), 0);
        due("board 3", x.put(3, 0, 1), 0);

        promise(3, "MISSING.");
        due("never laid", x.put(1, 0, 1), MISSING);
        x.board(2, 64, 2);
        x.board(2, 0, 2);
        due("taken off", x.put(2, 0, 1), MISSING);
        due("whatever i is", x.put(2, LEAST, 1), MISSING);
        due("whatever i is", x.put(2, MOST, 1), MISSING);

        promise(3, "BEYOND: no such number.");
        due("the last of three", x.put(0, 2, 1), 0);
        due("behind the last of three", x.put(0, 3, 1), BEYOND);
        due("-1", x.put(0, -1, 1), BEYOND);
        due("the least", x.put(0, LEAST, 1), BEYOND);
        due("the greatest", x.put(0, MOST, 1), BEYOND);
        due("the last of 24", x.put(3, 23, 1), 0);
        due("behind the last of 24", x.put(3, 24, 1), BEYOND);
        x.board(0, 32, 4);
        due("it was not put to what comes later", read(x, 0, 3), 0);
        x.board(1, 32, 0);
        due("the first of none", x.put(1, 0, 1), BEYOND);
    }

    /** Board 0 has 1 to 6, board 1 has 11 to 13, both of 32 bits. */
    private static BarnBench twoBoards() {
        BarnBench x = new BarnBench();
        lay(x, 0, 32, 1, 2, 3, 4, 5, 6);
        lay(x, 1, 32, 11, 12, 13);
        return x;
    }

    private static void reads(String what, BarnBench x, int b, int... numbers) {
        for (int i = 0; i < numbers.length; i++) {
            due(what + ": number " + i + " of board " + b, read(x, b, i), numbers[i]);
        }
        due(what + ": no number " + numbers.length, read(x, b, numbers.length), BEYOND);
    }

    private static void copyNumbers() {
        promise(4, "n numbers of a board from one on come to those of another one from one on: n.");
        BarnBench x = twoBoards();
        due("the last two to the last two", x.copy(0, 4, 1, 1, 2), 2);
        reads("to the last two", x, 1, 11, 5, 6);
        reads("where they came from", x, 0, 1, 2, 3, 4, 5, 6);
        due("all of the shorter one to the first", x.copy(1, 0, 0, 0, 3), 3);
        reads("to the first", x, 0, 11, 5, 6, 4, 5, 6);
        due("one", x.copy(0, 3, 1, 0, 1), 1);
        reads("one", x, 1, 4, 5, 6);
        due("none", x.copy(0, 0, 1, 0, 0), 0);
        due("none, from behind the last to behind the last", x.copy(0, 6, 1, 3, 0), 0);
        reads("none", x, 1, 4, 5, 6);
        lay(x, 2, 64, WIDE + 3, 8);
        lay(x, 3, 64, 0, 0, 0);
        due("64 bits", x.copy(2, 0, 3, 1, 2), 2);
        reads("all 64 bits", x, 3, 0, SIZE, 8);
        x.board(2, 32, 24);
        x.board(3, 32, 24);
        x.put(2, 0, 21);
        x.put(2, 23, 22);
        due("all 24", x.copy(2, 0, 3, 0, 24), 24);
        due("the first of 24", read(x, 3, 0), 21);
        due("the last of 24", read(x, 3, 23), 22);
        x.board(2, 32, 0);
        due("none of a board without numbers", x.copy(2, 0, 3, 24, 0), 0);
        due("none to a board without numbers", x.copy(3, 24, 2, 0, 0), 0);
    }

    private static void copyWithinOne() {
        BarnBench x = twoBoards();
        due("on, over itself", x.copy(0, 0, 0, 1, 5), 5);
        reads("on, over itself", x, 0, 1, 1, 2, 3, 4, 5);
        x = twoBoards();
        due("back, over itself", x.copy(0, 1, 0, 0, 5), 5);
        reads("back, over itself", x, 0, 2, 3, 4, 5, 6, 6);
        due("all to where they are", x.copy(0, 0, 0, 0, 6), 6);
        reads("to where they are", x, 0, 2, 3, 4, 5, 6, 6);
    }

    private static void copyFindings() {
        promise(4, "BEYOND: no such board (either).");
        BarnBench x = twoBoards();
        lay(x, 2, 64, 21, 22, 23);
        int[] noBoards = {LEAST, -1, 4, MOST};
        for (int b : noBoards) {
            due("from board " + b, x.copy(b, 0, 1, 0, 1), BEYOND);
            due("to board " + b, x.copy(0, 0, b, 0, 1), BEYOND);
            due("from and to board " + b, x.copy(b, 0, b, 0, 0), BEYOND);
        }

        promise(4, "MISSING: one is.");
        due("the first", x.copy(3, 0, 1, 0, 1), MISSING);
        due("the second", x.copy(0, 0, 3, 0, 1), MISSING);
        due("both", x.copy(3, 0, 3, 0, 1), MISSING);
        due("none of one that is", x.copy(3, 0, 0, 0, 0), MISSING);
        due("the first, and 64 bits", x.copy(3, 0, 2, 0, 1), MISSING);

        promise(4, "KIND: they are not of as many bits.");
        due("32 to 64", x.copy(0, 0, 2, 0, 1), KIND);
        due("64 to 32", x.copy(2, 0, 0, 0, 1), KIND);
        due("none of 32 to 64", x.copy(0, 0, 2, 0, 0), KIND);
        due("whatever the places are", x.copy(2, -1, 0, MOST, -1), KIND);
        reads("nothing came from 32", x, 2, 21, 22, 23);
        reads("nothing came from 64", x, 0, 1, 2, 3, 4, 5, 6);
        x.board(3, 64, 1);
        due("64 to 64", x.copy(2, 2, 3, 0, 1), 1);
        due("64 to 64", read(x, 3, 0), 23);
    }

    private static void copyNotSoMany() {
        promise(4, "BEYOND: one has not so many, or from, to or n is below 0.");
        BarnBench x = twoBoards();
        due("one more than the first has", x.copy(0, 4, 1, 0, 3), BEYOND);
        due("one more than the second has", x.copy(0, 0, 1, 1, 3), BEYOND);
        due("from behind the last", x.copy(0, 6, 1, 0, 1), BEYOND);
        due("to behind the last", x.copy(0, 0, 1, 3, 1), BEYOND);
        due("more than the second has at all", x.copy(0, 0, 1, 0, 4), BEYOND);
        due("more than one has at all", x.copy(0, 0, 0, 0, 7), BEYOND);
        due("from -1", x.copy(0, -1, 1, 0, 1), BEYOND);
        due("to -1", x.copy(0, 0, 1, -1, 1), BEYOND);
        due("n -1", x.copy(0, 1, 1, 1, -1), BEYOND);
        due("none from -1", x.copy(0, -1, 1, 0, 0), BEYOND);
        due("none to -1", x.copy(0, 0, 1, -1, 0), BEYOND);
        due("none from one further", x.copy(0, 7, 1, 0, 0), BEYOND);
        due("none to one further", x.copy(0, 0, 1, 4, 0), BEYOND);
        int[] far = {LEAST, MOST};
        for (int one : far) {
            due("from " + one, x.copy(0, one, 1, 0, 1), BEYOND);
            due("to " + one, x.copy(0, 0, 1, one, 1), BEYOND);
            due("n " + one, x.copy(0, 0, 1, 0, one), BEYOND);
            due("from and n " + one, x.copy(0, one, 1, 0, one), BEYOND);
            due("to and n " + one, x.copy(0, 0, 1, one, one), BEYOND);
            due("from 1, n " + one, x.copy(0, 1, 1, 1, one), BEYOND);
            due("from and to " + one + ", n " + (MOST - one), x.copy(0, one, 1, one, MOST - one), BEYOND);
        }
        reads("nothing came", x, 0, 1, 2, 3, 4, 5, 6);
        reads("nothing came", x, 1, 11, 12, 13);
    }
}
