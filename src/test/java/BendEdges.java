/** The bend of cost against length: promises 17 to 22. */
final class BendEdges extends Edges {
    /** CHEAPEST of row() from 9 on. */
    private static final int[] ROW_COSTS = {22, 15, 12, 9, 6, 3, 0, 0, 0};

    static void all() {
        longests();
        cheapests();
        cheapestsInParts();
        cheapestsFarOff();
        cheapestFindings();
        slopes();
        slopeFindings();
        bendCounts();
        bendLengths();
        withins();
        withinsInLowestTerms();
        withinsOfNone();
    }

    /** Twelve STEPPED in a row, each stretch of 30 at a price of its own. */
    private static BarnBench manyBends() {
        BarnBench x = new BarnBench();
        for (int i = 1; i <= 12; i++) {
            add(x, 2, 60, 0, i, 30, 100);
        }
        return inRow(x);
    }

    private static void longests() {
        promise(17, "The length of the shortest plan with all easy spans (hard: with all hard ones: SHORTEST).");
        BarnBench x = new BarnBench();
        due("easy, without tasks", x.longest(false), 0);
        due("hard, without tasks", x.longest(true), 0);
        x = row();
        due("easy", x.longest(false), 15);
        due("hard", x.longest(true), 9);
        x.span(0, 2);
        x.plan(9);
        due("easy, whatever is told", x.longest(false), 15);
        x.span(0, 5);
        due("hard, whatever is told", x.longest(true), 9);
        x = many(12, 0, 60, 0, 1);
        due("easy, twelve beside one another", x.longest(false), 60);
        inRow(x);
        due("easy, twelve in a row", x.longest(false), 720);
        due("hard, twelve in a row", x.longest(true), 0);
        x = inRow(many(12, 1, 60));
        due("hard, twelve FIXED in a row", x.longest(true), 720);
        x = one(4, 9, 3, 5, 8);
        due("easy is longer than any cheapest plan", x.longest(false), 9);
        due("hard is SHORTEST", x.longest(true), 3);
        due("nothing is shorter", x.plan(2), SHORT);
        due("it can be so short", x.plan(3), 3);
    }

    private static void cheapests() {
        promise(18, "d times CHEAPEST(n / d).");
        BarnBench x = row();
        for (int i = 0; i < ROW_COSTS.length; i++) {
            due("at " + (9 + i), x.cheapest(9 + i, 1), ROW_COSTS[i]);
            due("at " + (9 + i) + " in 7 parts", x.cheapest(7 * (9 + i), 7), 7 * ROW_COSTS[i]);
            due("at " + (9 + i) + " in 1000 parts", x.cheapest(1000 * (9 + i), 1000), 1000 * ROW_COSTS[i]);
        }
        x = one(0, 9, 0, 6);
        due("at 0", x.cheapest(0, 1), 54);
        due("at 0 in 1000 parts", x.cheapest(0, 1000), 54000);
        due("just above 0", x.cheapest(1, 1000), 53994);
        x = new BarnBench();
        due("at 0, without tasks", x.cheapest(0, 1), 0);
        due("at 0, without tasks, in 1000 parts", x.cheapest(0, 1000), 0);
        due("at 1, without tasks", x.cheapest(1, 1), 0);
    }

    private static void cheapestsInParts() {
        BarnBench x = row();
        int[] n = {9001, 9999, 10001, 14999, 15001};
        int[] costs = {21993, 15007, 14997, 3, 0};
        for (int i = 0; i < n.length; i++) {
            due("at " + n[i] + " of 1000 parts", x.cheapest(n[i], 1000), costs[i]);
        }
        due("at 9 and a half", x.cheapest(19, 2), 37);
        due("at 64 of 7 parts", x.cheapest(64, 7), 147);
        due("at 8992 of 999 parts", x.cheapest(8992, 999), 22 * 999 - 7);
        // A stretch between bends goes through whole lengths that are none.
        due("at 12 and a third", x.cheapest(37, 3), 24);
    }

    private static void cheapestsFarOff() {
        BarnBench x = row();
        due("the greatest", x.cheapest(MOST, 1), 0);
        due("the greatest in 1000 parts", x.cheapest(MOST, 1000), 0);
        due("above 1000", x.cheapest(1001, 1), 0);
        due("rents stay for all lengths", one(4, 60, 0, 100000, 50000).cheapest(MOST, 1000), 3000000000L);
        x = many(12, 2, 60, 0, 100000, 0, 100000);
        due("the dearest", x.cheapest(0, 1), 144000000);
        due("the dearest in 1000 parts", x.cheapest(0, 1000), 144000000000L);
        due("just below the dearest", x.cheapest(1, 1000), 144000000000L - 2400000);
        x = inRow(many(12, 1, 60));
        due("the longest SHORTEST", x.cheapest(720, 1), 0);
        due("the longest SHORTEST in 1000 parts", x.cheapest(720000, 1000), 0);
    }

    private static void cheapestFindings() {
        promise(18, "SIZE: d is not 1 to 1000.");
        BarnBench x = row();
        int[] wrong = {LEAST, -1000, -1, 0, 1001, MOST};
        for (int d : wrong) {
            due("d " + d, x.cheapest(12, d), SIZE);
            due("d " + d + ", whatever n is", x.cheapest(LEAST, d), SIZE);
        }
        due("d 1", x.cheapest(12, 1), 9);
        due("d 1000", x.cheapest(12000, 1000), 9000);
        due("without tasks", new BarnBench().cheapest(0, 0), SIZE);

        promise(18, "SHORT: n / d is below SHORTEST.");
        due("SHORTEST less 1", x.cheapest(8, 1), SHORT);
        due("just below SHORTEST in 7 parts", x.cheapest(62, 7), SHORT);
        due("just below SHORTEST in 1000 parts", x.cheapest(8999, 1000), SHORT);
        due("SHORTEST in 1000 parts", x.cheapest(9000, 1000), 22000);
        due("0", x.cheapest(0, 1), SHORT);
        due("the least", x.cheapest(LEAST, 1), SHORT);
        due("the least in 1000 parts", x.cheapest(LEAST, 1000), SHORT);
        due("just below a SHORTEST of 0", one(0, 9, 0, 6).cheapest(-1, 1000), SHORT);
        due("-1 at a SHORTEST of 0", one(0, 9, 0, 6).cheapest(-1, 1), SHORT);
        due("just below 0, without tasks", new BarnBench().cheapest(-1, 1000), SHORT);
        x = inRow(many(12, 1, 60));
        due("just below the longest SHORTEST", x.cheapest(719, 1), SHORT);
        due("just below the longest SHORTEST in 1000 parts", x.cheapest(719999, 1000), SHORT);
    }

    private static void slopes() {
        promise(19, "CHEAPEST(n + 1) less CHEAPEST(n), without its sign.");
        BarnBench x = row();
        for (int i = 0; i + 1 < ROW_COSTS.length; i++) {
            due("at " + (9 + i), x.slope(9 + i), ROW_COSTS[i] - ROW_COSTS[i + 1]);
        }
        x = many(12, 2, 60, 0, 100000, 0, 100000);
        due("the steepest", x.slope(0), 2400000);
        due("the steepest, at its end", x.slope(59), 2400000);
        due("behind it", x.slope(60), 0);
        x = manyBends();
        for (int i = 0; i < 24; i++) {
            int slope = i < 12 ? 112 - i : 24 - i;
            due("ahead of bend " + (i + 1), x.slope(30 * i + 29), slope);
            due("from bend " + i + " on", x.slope(30 * i), slope);
        }
        due("from the last bend on", x.slope(720), 0);
    }

    private static void slopeFindings() {
        promise(19, "SHORT: n is below SHORTEST.");
        BarnBench x = row();
        due("SHORTEST", x.slope(9), 7);
        due("SHORTEST less 1", x.slope(8), SHORT);
        due("0", x.slope(0), SHORT);
        due("the least", x.slope(LEAST), SHORT);
        BarnBench none = new BarnBench();
        due("0, without tasks", none.slope(0), 0);
        due("-1, without tasks", none.slope(-1), SHORT);
        BarnBench fixed = inRow(many(12, 1, 60));
        due("the longest SHORTEST", fixed.slope(720), 0);
        due("just below it", fixed.slope(719), SHORT);

        promise(19, "BEYOND: n is above 1000.");
        due("1000", x.slope(1000), 0);
        due("1001", x.slope(1001), BEYOND);
        due("the greatest", x.slope(MOST), BEYOND);
        due("1000, without tasks", none.slope(1000), 0);
        due("1001, without tasks", none.slope(1001), BEYOND);
        due("1000, the longest SHORTEST", fixed.slope(1000), 0);
    }

    private static void bendCounts() {
        promise(20, "How many bends there are.");
        due("without tasks", new BarnBench().bends(), 1);
        due("FIXED", one(1, 60).bends(), 1);
        due("of no span", one(0, 0, 0, 5).bends(), 1);
        due("hurried for nothing", one(0, 9, 3, 0).bends(), 1);
        due("hurried for a price", one(0, 9, 3, 1).bends(), 2);
        due("h as e", one(0, 9, 9, 1).bends(), 1);
        due("one shorter", one(0, 9, 8, 1).bends(), 2);
        due("a step", one(2, 9, 3, 1, 2, 1).bends(), 3);
        due("a step for nothing more", one(2, 9, 3, 1, 2, 0).bends(), 2);
        due("a step from the start", one(2, 9, 3, 1, 0, 1).bends(), 2);
        due("a step one ahead of h", one(2, 9, 3, 1, 5, 1).bends(), 3);
        due("a step at h", one(2, 9, 3, 1, 6, 1).bends(), 2);
        due("a step alone", one(2, 9, 3, 0, 2, 1).bends(), 2);
        due("rent one below the price", one(4, 9, 3, 5, 4).bends(), 2);
        due("rent as the price", one(4, 9, 3, 5, 5).bends(), 1);
        due("rent above the price", one(4, 9, 3, 5, 6).bends(), 1);
        due("two of one price in a row", inRow(many(2, 0, 5, 2, 3)).bends(), 2);
        due("in a row", row().bends(), 3);
        due("24 stretches", manyBends().bends(), 25);
        BarnBench x = one(0, 5, 2, 3);
        due("one task", x.bends(), 2);
        add(x, 0, 3, 2, 1);
        due("another beside it turns it at 3", x.bends(), 3);
        x.after(1, 0);
        due("one behind the other", x.bends(), 3);
        x.undo();
        x.undo();
        due("one task again", x.bends(), 2);
    }

    private static void bendLengths() {
        promise(21, "The k-th bend (from 0), the least length first.");
        BarnBench x = row();
        due("SHORTEST", x.bend(0), 9);
        due("the next", x.bend(1), 10);
        due("the last", x.bend(2), 15);
        BarnBench all = manyBends();
        for (int k = 0; k < 25; k++) {
            due("bend " + k + " of 25", all.bend(k), 30 * k);
        }
        BarnBench none = new BarnBench();
        due("without tasks", none.bend(0), 0);
        BarnBench fixed = inRow(many(12, 1, 60));
        due("the longest SHORTEST", fixed.bend(0), 720);
        BarnBench close = new BarnBench();
        add(close, 0, 1, 0, 5);
        add(close, 0, 1, 0, 7);
        inRow(close);
        for (int k = 0; k < 3; k++) {
            due("one apart, " + k, close.bend(k), k);
        }
        BarnBench free = one(0, 9, 3, 0);
        due("hurried for nothing", free.bend(0), 3);

        promise(21, "NONE.");
        due("behind the last of 3", x.bend(3), NONE);
        due("behind the last of 25", all.bend(25), NONE);
        due("behind the only one", fixed.bend(1), NONE);
        due("behind the one without tasks", none.bend(1), NONE);
        due("where it would turn for a price", free.bend(1), NONE);
        int[] far = {LEAST, -1, 720, 721, MOST};
        for (int k : far) {
            due("bend " + k, x.bend(k), NONE);
        }
    }

    private static void within(BarnBench x, long sum, long above, int below) {
        due("within(" + sum + ")", x.within(sum), above);
        due("told(1) of within(" + sum + ")", x.told(1), below);
    }

    private static void withins() {
        promise(22, "The least t at which CHEAPEST(t) is not above a sum, as a fraction in lowest terms: what is above;"
            + " told(1) what is below.");
        BarnBench x = row();
        due("told(1) at first", x.told(1), 1);
        within(x, 0, 15, 1);
        within(x, 1, 44, 3);
        within(x, 3, 14, 1);
        within(x, 14, 31, 3);
        within(x, 15, 10, 1);
        within(x, 16, 69, 7);
        within(x, 21, 64, 7);
        within(x, 22, 9, 1);
        within(x, 1, 44, 3);
        within(x, 23, 9, 1);
        within(x, 1, 44, 3);
        within(x, Long.MAX_VALUE, 9, 1);
        within(new BarnBench(), 0, 0, 1);
        within(new BarnBench(), Long.MAX_VALUE, 0, 1);
        within(one(0, 9, 3, 0), 0, 3, 1);
        x = one(4, 9, 1, 6, 3);
        within(x, 27, 9, 1);
        within(x, 28, 26, 3);
        within(x, 50, 4, 3);
        within(x, 51, 1, 1);
        within(x, 52, 1, 1);
        within(one(4, 9, 3, 5, 8), 54, 3, 1);
        within(inRow(many(12, 1, 60)), 0, 720, 1);
    }

    private static void withinsInLowestTerms() {
        BarnBench x = one(0, 9, 0, 6);
        within(x, 1, 53, 6);
        within(x, 2, 26, 3);
        within(x, 3, 17, 2);
        within(x, 4, 25, 3);
        within(x, 6, 8, 1);
        within(x, 48, 1, 1);
        within(x, 50, 2, 3);
        within(x, 51, 1, 2);
        within(x, 53, 1, 6);
        within(x, 54, 0, 1);
        within(x, 53, 1, 6);
        within(x, 55, 0, 1);
        x = many(12, 2, 60, 0, 100000, 0, 100000);
        within(x, 1, 143999999, 2400000);
        within(x, 143999999, 1, 2400000);
        within(x, 143999998, 1, 1200000);
        within(x, 144000000, 0, 1);
        x = manyBends();
        within(x, 1, 719, 1);
        within(x, 31, 1379, 2);
    }

    private static void withinsOfNone() {
        promise(22, "NONE: it is above the sum for all t.");
        BarnBench x = row();
        x.within(1);
        due("just below all", x.within(-1), NONE);
        due("the least", x.within(Long.MIN_VALUE), NONE);
        due("told(1) of the one ahead", x.told(1), 3);
        x = one(4, 9, 1, 6, 3);
        due("just below the rent", x.within(26), NONE);
        due("0", x.within(0), NONE);
        due("told(1) as at first", x.told(1), 1);
        due("just below where rent is above the price", one(4, 9, 3, 5, 8).within(53), NONE);
        due("without tasks", new BarnBench().within(-1), NONE);
        due("no rent and no price", one(0, 9, 3, 0).within(-1), NONE);
    }
}
