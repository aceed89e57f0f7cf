/** What follows what, and in which order: promises 6, 7, 10 and 11. */
final class PairEdges extends Edges {
    private static final int[] FAR_OFF = {LEAST, -1, 4, 12, 31, 32, MOST};

    static void all() {
        afterAnother();
        afterBeyond();
        afterRing();
        afterRingOfSome();
        awayFromOne();
        followsOne();
        orders();
    }

    private static void afterAnother() {
        promise(6, "A task follows another one: how many it follows.");
        BarnBench x = many(12, 1, 1);
        for (int other = 0; other < 11; other++) {
            due("the last follows " + other, x.after(11, other), other + 1);
        }
        due("once more", x.after(11, 0), 11);
        due("pairs", x.told(3), 11);
        due("the first of another", x.after(10, 0), 1);
        due("a lower one may follow a higher one", x.after(0, 9), 1);
        due("pairs", x.told(3), 13);
        due("9, 0, 10 and 11 in a row", x.length(), 4);
    }

    private static void afterBeyond() {
        promise(6, "BEYOND: no such task (either).");
        BarnBench x = many(4, 1, 1);
        for (int none : FAR_OFF) {
            due("after(" + none + ", 0)", x.after(none, 0), BEYOND);
            due("after(0, " + none + ")", x.after(0, none), BEYOND);
            due("after itself, " + none, x.after(none, none), BEYOND);
        }
        due("no bits of a ring", x.told(0), 0);
        due("no pairs", x.told(3), 0);
        due("the last after the first", x.after(3, 0), 1);
        due("without tasks", new BarnBench().after(0, 0), BEYOND);
        x = many(2, 1, 1);
        x.undo();
        due("one that is undone", x.after(0, 1), BEYOND);
    }

    private static void afterRing() {
        promise(6, "RING: told(0) has a bit for each task that would come to follow itself then.");
        BarnBench x = many(12, 1, 1);
        due("nothing yet", x.told(0), 0);
        for (int task = 0; task < 12; task++) {
            due(task + " after itself", x.after(task, task), RING);
            due("its bit", x.told(0), 1 << task);
        }
        inRow(x);
        due("a ring of all twelve", x.after(0, 11), RING);
        due("all bits", x.told(0), ALL_TWELVE);
        due("a ring of two", x.after(5, 6), RING);
        due("two bits", x.told(0), 3 << 5);
        due("itself, within a row", x.after(6, 6), RING);
        due("one bit", x.told(0), 1 << 6);
        due("no ring leaves the bits", x.after(11, 0), 2);
        due("the latest bits", x.told(0), 1 << 6);
        due("nothing came of the rings", x.told(3), 12);
        due("nothing came of the rings", x.follows(0, 11), 0);
        x.away(6, 5);
        due("the row is broken", x.after(5, 6), 2);
    }

    /** 0, then 1 and 2 beside one another, then 3; 4 follows 3, and 5 is followed by 0; 6 stands alone. */
    private static void afterRingOfSome() {
        BarnBench x = many(7, 1, 1);
        x.after(1, 0);
        x.after(2, 0);
        x.after(3, 1);
        x.after(3, 2);
        x.after(4, 3);
        x.after(0, 5);
        due("both ways round", x.after(0, 3), RING);
        due("bits of both ways, not of those outside", x.told(0), 0b1111);
        due("one way round", x.after(0, 2), RING);
        due("bits of one way", x.told(0), 0b101);
        due("the whole", x.after(5, 4), RING);
        due("bits of the whole, but the one alone", x.told(0), 0b111111);
        due("no ring with the one alone", x.after(5, 6), 1);
    }

    private static void awayFromOne() {
        promise(7, "It follows it no more: how many it follows.");
        BarnBench x = many(12, 1, 1);
        for (int other = 0; other < 11; other++) {
            x.after(11, other);
        }
        for (int other = 0; other < 11; other++) {
            due("away from " + other, x.away(11, other), 10 - other);
            due("follows it no more", x.follows(11, other), 0);
        }
        due("pairs", x.told(3), 0);
        x.after(0, 11);
        due("the first from the last", x.away(0, 11), 0);

        promise(7, "NONE: it did not.");
        due("never", x.away(1, 0), NONE);
        due("no more", x.away(0, 11), NONE);
        x.after(1, 0);
        x.after(2, 1);
        due("by a row of others alone", x.away(2, 0), NONE);
        due("the other way round", x.away(0, 1), NONE);
        due("itself", x.away(1, 1), NONE);
        due("pairs stay", x.told(3), 2);

        promise(7, "BEYOND: no such task (either).");
        x = inRow(many(4, 1, 1));
        for (int none : FAR_OFF) {
            due("away(" + none + ", 0)", x.away(none, 0), BEYOND);
            due("away(1, " + none + ")", x.away(1, none), BEYOND);
        }
        due("pairs stay", x.told(3), 3);
        due("without tasks", new BarnBench().away(0, 0), BEYOND);
        due("the last from the one ahead", x.away(3, 2), 0);
    }

    private static void followsOne() {
        promise(10, "Whether a task follows another one: 1, 2 (by a row of others alone), 0 not.");
        BarnBench x = inRow(many(12, 1, 1));
        for (int task = 0; task < 12; task++) {
            due("the first of all, by " + task, x.follows(task, 0), task == 0 ? 0 : task == 1 ? 1 : 2);
            due("the last of all, by " + task, x.follows(task, 11), 0);
            due("itself, " + task, x.follows(task, task), 0);
        }
        x.after(11, 0);
        due("by itself and by a row", x.follows(11, 0), 1);
        x.away(11, 0);
        due("by a row alone again", x.follows(11, 0), 2);
        x.away(6, 5);
        due("the row is broken", x.follows(11, 0), 0);
        due("behind the break", x.follows(11, 6), 2);
        // A row that goes down in numbers and up again is no other than one that goes up.
        x = many(5, 1, 1);
        x.after(0, 3);
        x.after(3, 1);
        x.after(1, 4);
        due("down and up", x.follows(0, 4), 2);
        due("not the other way", x.follows(4, 0), 0);
        due("one apart", x.follows(2, 4), 0);

        promise(10, "BEYOND: no such task (either).");
        x = inRow(many(4, 1, 1));
        for (int none : FAR_OFF) {
            due("follows(" + none + ", 0)", x.follows(none, 0), BEYOND);
            due("follows(0, " + none + ")", x.follows(0, none), BEYOND);
        }
        due("the first and the last", x.follows(3, 0), 2);
        due("without tasks", new BarnBench().follows(0, 0), BEYOND);
    }

    private static void isOrder(BarnBench x, int... tasks) {
        for (int k = 0; k < tasks.length; k++) {
            due("place " + k, x.order(k), tasks[k]);
        }
        due("behind the last place", x.order(tasks.length), NONE);
    }

    private static void orders() {
        promise(11, "The k-th task (from 0) when again and again the lowest one comes next that follows none that"
            + " has not come yet.");
        BarnBench x = many(4, 1, 1);
        isOrder(x, 0, 1, 2, 3);
        x.after(0, 2);
        // The 0 is free as soon as 2 has come, so it comes ahead of 3.
        isOrder(x, 1, 2, 0, 3);
        x.after(2, 3);
        isOrder(x, 1, 3, 2, 0);
        x.after(1, 0);
        isOrder(x, 3, 2, 0, 1);
        x.away(2, 3);
        isOrder(x, 2, 0, 1, 3);
        BarnBench downwards = many(12, 1, 1);
        for (int task = 0; task < 11; task++) {
            downwards.after(task, task + 1);
        }
        isOrder(downwards, 11, 10, 9, 8, 7, 6, 5, 4, 3, 2, 1, 0);

        promise(11, "NONE: there is none such.");
        due("without tasks", new BarnBench().order(0), NONE);
        due("-1", x.order(-1), NONE);
        due("4 of four", x.order(4), NONE);
        due("11 of four", x.order(11), NONE);
        due("12 of four", x.order(12), NONE);
        due("the least", x.order(LEAST), NONE);
        due("the greatest", x.order(MOST), NONE);
        x.undo();
        x.undo();
        due("3 of four", x.order(3), 0);
    }
}
