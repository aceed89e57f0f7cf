/** Told plans: promises 27 and 28. */
final class CheckEdges extends Edges {
    private static final String WRONG = "100 and t: t is the first task whose numbers are missing, whose span is not"
        + " h to e, that begins below 0 or ahead of the end of one that it follows (by told numbers, whatever these"
        + " are; of one whose numbers are missing nothing is asked), or that ends behind n.";

    static void all() {
        tells();
        toldPlans();
        toldPlansOfTwelve();
        cheapestOrDearer();
        missingNumbers();
        wrongSpans();
        wrongBegins();
        aheadOfEnds();
        toldOrMissing();
        whateverTheseAre();
        behindTheLength();
        firstOfSome();
        moreWasTold();
        tooShort();
    }

    private static int check(BarnBench x, int n, int... numbers) {
        for (int v : numbers) {
            x.tell(v);
        }
        return x.check(n);
    }

    private static void tells() {
        promise(27, "One more number waits: how many.");
        BarnBench x = new BarnBench();
        int[] any = {LEAST, -1, 0, 1, MOST};
        for (int i = 1; i <= 59; i++) {
            due("number " + i, x.tell(any[i % 5]), i);
        }
        due("wait", x.told(4), 59);
        due("the last that is taken", x.tell(0), 60);

        promise(27, "FULL: 60 wait.");
        due("one more", x.tell(0), FULL);
        due("wait", x.told(4), 60);
        due("and one more", x.tell(MOST), FULL);
        x.check(0);
        due("none wait", x.told(4), 0);
        due("the first again", x.tell(0), 1);
    }

    private static void toldPlans() {
        promise(28, "The numbers that wait (none do then) are a told plan: for each task in order when it begins, and"
            + " its span.");
        BarnBench x = row();
        due("a plan", check(x, 13, 0, 3, 3, 5, 8, 5), 0);
        due("none wait", x.told(4), 0);
        due("so the next one has none", x.check(13), 100);
        due("a dearer one", check(x, 13, 0, 2, 3, 5, 8, 5), 1);
        due("none wait", x.told(4), 0);
        due("one that is none", check(x, 13, 0, 1, 3, 5, 8, 5), 100);
        due("none wait", x.told(4), 0);
        due("more", check(x, 13, 0, 3, 3, 5, 8, 5, 0), 90);
        due("none wait", x.told(4), 0);
        due("a plan again", check(x, 13, 0, 3, 3, 5, 8, 5), 0);
        due("span ahead of begin is none", check(x, 13, 3, 0, 5, 3, 5, 8), 100);
        due("no plan is made", x.told(5), 0);
        x.plan(9);
        check(x, 13, 0, 3, 3, 5, 8, 5);
        due("the plan that was made stays", x.planned(0, true), 2);
        // "In order" is taken to be that of their numbers, whatever follows what.
        x = new BarnBench();
        add(x, 1, 2);
        add(x, 1, 3);
        x.after(0, 1);
        due("0 ahead of 1", check(x, 5, 3, 2, 0, 3), 0);
        due("1 ahead of 0", check(x, 5, 0, 3, 3, 2), 100);
    }

    private static void toldPlansOfTwelve() {
        BarnBench x = inRow(many(12, 0, 60, 0, 1));
        for (int more = -1; more <= 1; more++) {
            for (int i = 0; i < 24 + more; i++) {
                x.tell(i % 2 == 0 ? 60 * (i / 2) : 60);
            }
            due("twelve tasks, numbers " + (24 + more), x.check(720), more < 0 ? 111 : more == 0 ? 0 : 90);
        }
        due("no number", x.check(0), 100);
    }

    private static void cheapestOrDearer() {
        promise(28, "0: it is a plan, not longer than n, and costs CHEAPEST(n).");
        BarnBench x = row();
        due("SHORTEST", check(x, 9, 0, 2, 2, 5, 7, 2), 0);
        due("THE PLAN", check(x, 13, 0, 3, 3, 5, 8, 5), 0);
        due("another one as cheap", check(x, 13, 0, 5, 5, 5, 10, 3), 0);
        due("one that begins later", check(x, 1000, 900, 5, 950, 5, 995, 5), 0);
        due("n above 1000", check(x, 1001, 0, 5, 5, 5, 10, 5), 0);
        due("n the greatest", check(x, MOST, 0, 5, 5, 5, 10, 5), 0);
        due("n the greatest, up to it", check(x, MOST, 0, 5, 5, 5, MOST - 5, 5), 0);
        due("without tasks, at 0", new BarnBench().check(0), 0);
        due("without tasks, at the greatest", new BarnBench().check(MOST), 0);
        due("hurried for nothing", check(one(0, 9, 3, 0), 9, 0, 4), 0);
        BarnBench rented = one(4, 9, 3, 5, 8);
        due("rent above the price", check(rented, 9, 6, 3), 0);
        BarnBench dear = many(12, 2, 60, 0, 100000, 0, 100000);
        due("the dearest", check(dear, 0, new int[24]), 0);

        promise(28, "1: it is one, and costs more.");
        due("one hurried in vain", check(x, 13, 0, 2, 3, 5, 8, 5), 1);
        due("the dearer one hurried", check(x, 10, 0, 3, 3, 5, 8, 2), 1);
        due("hurried as for a shorter n", check(x, 14, 0, 3, 3, 5, 8, 5), 1);
        due("so far above all", check(x, MOST, 0, 4, 5, 5, 10, 5), 1);
        due("rent above the price", check(rented, 9, 0, 4), 1);
        due("the dearest at 1", check(dear, 1, new int[24]), 1);
        BarnBench cheap = one(0, 60, 0, 1);
        due("the least more", check(cheap, 60, 0, 59), 1);
        due("nothing more", check(cheap, 59, 0, 59), 0);
    }

    private static void missingNumbers() {
        promise(28, WRONG);
        BarnBench x = row();
        due("all", check(x, 15), 100);
        due("all but one", check(x, 15, 0), 100);
        due("those of 1 and 2", check(x, 15, 0, 5), 101);
        due("half of those of 1", check(x, 15, 0, 5, 5), 101);
        due("those of 2", check(x, 15, 0, 5, 5, 5), 102);
        due("half of those of 2", check(x, 15, 0, 5, 5, 5, 10), 102);
        due("none", check(x, 15, 0, 5, 5, 5, 10, 5), 0);
        due("what was told ahead of that is gone", check(x, 15, 0, 5, 5, 5), 102);
    }

    private static void wrongSpans() {
        BarnBench x = row();
        due("just below h", check(x, 15, 0, 1, 5, 5, 10, 5), 100);
        due("h", check(x, 12, 0, 2, 2, 5, 7, 5), 0);
        due("just above e", check(x, 1000, 0, 6, 6, 5, 11, 5), 100);
        due("e", check(x, 1000, 0, 5, 6, 5, 11, 5), 0);
        due("just below e of FIXED", check(x, 15, 0, 5, 5, 4, 10, 5), 101);
        due("just above e of FIXED", check(x, 1000, 0, 5, 5, 6, 11, 5), 101);
        due("just below h of the last", check(x, 15, 0, 5, 5, 5, 10, 1), 102);
        due("just above e of the last", check(x, 1000, 0, 5, 5, 5, 10, 6), 102);
        due("the least", check(x, 15, 0, LEAST, 5, 5, 10, 5), 100);
        due("the greatest", check(x, MOST, 0, MOST, 5, 5, 10, 5), 100);
        due("below a span of 0", check(one(0, 9, 0, 1), 9, 5, -1), 100);
        due("a span of 0", check(one(0, 9, 0, 1), 9, 5, 0), 1);
    }

    private static void wrongBegins() {
        BarnBench x = row();
        due("just below 0", check(x, 15, -1, 5, 5, 5, 10, 5), 100);
        due("0", check(x, 15, 0, 5, 5, 5, 10, 5), 0);
        due("the least", check(x, 15, LEAST, 5, 5, 5, 10, 5), 100);
        BarnBench two = many(2, 1, 3);
        due("just below 0, the second", check(two, 3, 0, 3, -1, 3), 101);
        due("0, the second", check(two, 3, 0, 3, 0, 3), 0);
        BarnBench none = one(1, 0);
        due("no span, just below 0", check(none, 0, -1, 0), 100);
        due("no span, 0", check(none, 0, 0, 0), 0);
    }

    private static void aheadOfEnds() {
        BarnBench x = row();
        due("just ahead of the end of 0", check(x, 15, 0, 5, 4, 5, 10, 5), 101);
        due("at the ends", check(x, 15, 0, 5, 5, 5, 10, 5), 0);
        due("just ahead of the end of 1", check(x, 15, 0, 5, 5, 5, 9, 5), 102);
        due("behind the ends", check(x, 17, 0, 5, 6, 5, 12, 5), 0);
        x.away(2, 1);
        due("of one that it follows no more", check(x, 15, 0, 5, 5, 5, 0, 5), 0);
        BarnBench y = many(3, 1, 4);
        y.after(0, 2);
        due("just ahead of the end of a later one", check(y, 9, 3, 4, 0, 4, 0, 4), 100);
        due("at the end of a later one", check(y, 9, 4, 4, 0, 4, 0, 4), 0);
        y.after(0, 1);
        due("of the first of two", check(y, 9, 4, 4, 1, 4, 0, 4), 100);
        due("of the second of two", check(y, 9, 4, 4, 0, 4, 1, 4), 100);
        due("of both in time", check(y, 9, 5, 4, 1, 4, 1, 4), 0);
    }

    /** The first follows the last of some, whose numbers are all told, or half of them, or none. */
    private static void toldOrMissing() {
        for (int last = 1; last < 12; last++) {
            BarnBench x = many(last + 1, 1, 4);
            x.after(0, last);
            for (int heard = 2 * last; heard <= 2 * last + 2; heard++) {
                // Numbers of an earlier check stand where some are missing, and would make the first one wrong.
                check(x, 9, filled(2 * last + 2, 9));
                int[] numbers = new int[heard];
                for (int i = 1; i < heard; i += 2) {
                    numbers[i] = 4;
                }
                boolean isTold = heard == 2 * last + 2;
                due("the last is " + last + ", numbers " + heard, check(x, 9, numbers), isTold ? 100 : 100 + last);
            }
        }
    }

    private static int[] filled(int count, int v) {
        int[] numbers = new int[count];
        java.util.Arrays.fill(numbers, v);
        return numbers;
    }

    private static void whateverTheseAre() {
        BarnBench x = many(3, 1, 4);
        x.after(0, 2);
        due("a later one's span is too great, in time", check(x, 20, 5, 4, 0, 4, 0, 5), 102);
        due("a later one's span is too great, not in time", check(x, 20, 4, 4, 0, 4, 0, 5), 100);
        due("a later one begins below 0, in time", check(x, 20, 0, 4, 0, 4, -4, 4), 102);
        due("a later one begins below 0, not in time", check(x, 20, 0, 4, 0, 4, -3, 4), 100);
        due("the greatest numbers", check(x, 20, 16, 4, 0, 4, MOST, MOST), 100);
        due("an end that would wrap", check(x, 20, 16, 4, 0, 4, MOST, 1), 100);
        due("the least numbers", check(x, 20, 0, 4, 0, 4, LEAST, LEAST), 102);
        due("an end that would wrap below", check(x, 20, 0, 4, 0, 4, LEAST, -1), 102);
        due("one whose numbers are missing", check(x, 20, 0, 4, 0, 4), 102);
        due("one of which half is missing", check(x, 20, 0, 4, 0, 4, 20), 102);
        // What waited for an earlier check is no number of this one.
        check(x, 20, 0, 0, 0, 0, 20, 20);
        due("one whose numbers are missing now", check(x, 20, 0, 4, 0, 4), 102);
        due("and half of them", check(x, 20, 0, 4, 0, 4, 1), 102);
        // Only those that it follows itself are asked: by a row of others another one would be wrong.
        x = many(3, 1, 4);
        x.after(0, 1);
        x.after(1, 2);
        due("the one between is wrong first", check(x, 20, 4, 4, 0, 4, 8, 4), 101);
    }

    private static void behindTheLength() {
        BarnBench x = row();
        due("ends one behind n", check(x, 14, 0, 5, 5, 5, 10, 5), 102);
        due("ends at n", check(x, 15, 0, 5, 5, 5, 10, 5), 0);
        due("the first ends behind n", check(x, 9, 5, 5, 10, 5, 15, 5), 100);
        due("all but the first end behind n", check(x, 9, 4, 5, 9, 5, 14, 5), 101);
        due("an end that would wrap", check(x, MOST, 0, 5, 5, 5, MOST - 4, 5), 102);
        due("an end that would wrap, of the first", check(x, MOST, MOST, 5, 5, 5, 10, 5), 100);
        due("an end at the greatest", check(x, MOST, 0, 5, 5, 5, MOST - 5, 5), 0);
        BarnBench none = one(1, 0);
        due("no span behind n", check(none, 3, 4, 0), 100);
        due("no span at n", check(none, 3, 3, 0), 0);
    }

    private static void firstOfSome() {
        BarnBench x = many(12, 1, 1);
        for (int first = 0; first < 12; first++) {
            for (int i = 0; i < 24; i++) {
                x.tell(i < 2 * first ? i % 2 : 7);
            }
            due("the first of some", x.check(1), 100 + first);
        }
    }

    private static void moreWasTold() {
        promise(28, "90: no task is wrong so, and more was told.");
        BarnBench x = row();
        due("one more", check(x, 15, 0, 5, 5, 5, 10, 5, 0), 90);
        due("two more", check(x, 15, 0, 5, 5, 5, 10, 5, 0, 0), 90);
        due("no more", check(x, 15, 0, 5, 5, 5, 10, 5), 0);
        due("a dearer one, and more", check(x, 15, 0, 4, 5, 5, 10, 5, 0), 90);
        due("a task is wrong, and more was told", check(x, 15, 0, 5, 5, 5, 9, 5, 0), 102);
        int[] all = new int[60];
        due("without tasks, 60", check(new BarnBench(), 0, all), 90);
        due("without tasks, one", check(new BarnBench(), 0, 0), 90);
        due("60 of a task", check(one(1, 0), 0, all), 90);
    }

    private static void tooShort() {
        promise(28, "SHORT: n is below SHORTEST.");
        BarnBench x = row();
        due("SHORTEST less 1", check(x, 8, 0, 2, 2, 5, 7, 2), SHORT);
        due("SHORTEST", check(x, 9, 0, 2, 2, 5, 7, 2), 0);
        due("no number", x.check(8), SHORT);
        due("wrong numbers", check(x, 8, -1, -1, -1, -1, -1, -1), SHORT);
        due("more", check(x, 8, 0, 2, 2, 5, 7, 2, 0), SHORT);
        due("0", check(x, 0, 0, 2), SHORT);
        due("the least", check(x, LEAST, 0, 2), SHORT);
        due("without tasks, -1", new BarnBench().check(-1), SHORT);
        BarnBench fixed = inRow(many(12, 1, 60));
        due("just below the longest SHORTEST", fixed.check(719), SHORT);
        due("the longest SHORTEST", fixed.check(720), 100);

        promise(28, "(The numbers are gone also then.)");
        x.tell(0);
        x.tell(2);
        x.check(8);
        due("none wait", x.told(4), 0);
        due("the next one has none of them", check(x, 9, 2, 5, 7, 2), 101);
        for (int i = 0; i < 60; i++) {
            x.tell(i);
        }
        x.check(8);
        due("none of 60 wait", x.told(4), 0);
        due("one more can", x.tell(0), 1);
    }
}
