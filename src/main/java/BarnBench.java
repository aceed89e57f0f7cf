import java.util.Arrays;

/**
 * A desk for a building in which tasks can be hurried for money. The numbered promises of the
 * document say what each call answers.
 */
public final class BarnBench {
    private static final int BEYOND = -1;
    private static final int MISSING = -2;
    private static final int SIZE = -3;
    private static final int KIND = -4;
    private static final int FULL = -5;
    private static final int RING = -6;
    private static final int NONE = -7;
    private static final int SHORT = -8;

    private static final int MOST_BOARDS = 4;
    private static final int MOST_NUMBERS = 24;
    private static final int MOST_TASKS = 12;
    private static final int MOST_SPAN = 60;
    private static final int MOST_PRICE = 100000;
    private static final int MOST_WAITING = 60;
    private static final int MOST_UNDONE = 30;
    private static final int MOST_PARTS = 1000;
    private static final int MOST_LENGTH = 1000;
    /** Bends are different whole lengths from 0 to that of all tasks in one row. */
    private static final int MOST_BENDS = MOST_TASKS * MOST_SPAN + 1;

    private static final int STEPPED = 2;
    private static final int RENTED = 4;
    /** How many numbers of a board a task of each kind takes. */
    private static final int[] TAKEN = {3, 1, 5, 1, 4};
    /** The kind that each kind stands under. */
    private static final int[] UNDER = {-1, 0, 0, 1, 0};

    private static final int CHECK_CHEAPEST = 0;
    private static final int CHECK_DEARER = 1;
    private static final int CHECK_MORE = 90;
    private static final int CHECK_WRONG = 100;

    private final Board[] boards;
    private final Tasks tasks;
    private final Tasks kept;
    private boolean hasKept;
    private final Acts acts;
    private final Timing timing;
    private final Curve curve;
    private boolean hasPlan;
    private int planFor;
    private final int[] waiting;
    private int waitingCount;
    private int ring;
    private int below;
    private int findings;

    public BarnBench() {
        boards = new Board[MOST_BOARDS];
        for (int b = 0; b < MOST_BOARDS; b++) {
            boards[b] = new Board();
        }
        tasks = new Tasks();
        kept = new Tasks();
        acts = new Acts();
        timing = new Timing();
        curve = new Curve();
        waiting = new int[MOST_WAITING];
        below = 1;
    }

    // ---- boards, tasks

    public int board(int b, int bits, int n) {
        if (!isBoard(b) || (bits != 0 && bits != 32 && bits != 64)) {
            return finding(BEYOND);
        }
        if (n < 0) {
            return finding(SIZE);
        }
        if (n > MOST_NUMBERS) {
            return finding(BEYOND);
        }
        boards[b].lay(bits, bits == 0 ? 0 : n);
        return boards[b].size;
    }

    public int put(int b, int i, long v) {
        if (!isBoard(b)) {
            return finding(BEYOND);
        }
        Board board = boards[b];
        if (board.isMissing()) {
            return finding(MISSING);
        }
        if (!board.has(i, 1)) {
            return finding(BEYOND);
        }
        board.write(i, v);
        return 0;
    }

    public int copy(int b, int from, int c, int to, int n) {
        if (!isBoard(b) || !isBoard(c)) {
            return finding(BEYOND);
        }
        Board source = boards[b];
        Board target = boards[c];
        if (source.isMissing() || target.isMissing()) {
            return finding(MISSING);
        }
        if (source.bits != target.bits) {
            return finding(KIND);
        }
        if (!source.has(from, n) || !target.has(to, n)) {
            return finding(BEYOND);
        }
        System.arraycopy(source.numbers, from, target.numbers, to, n);
        return n;
    }

    public int task(int kind, int b, int at) {
        if (!isKind(kind) || !isBoard(b)) {
            return finding(BEYOND);
        }
        Board board = boards[b];
        if (board.isMissing()) {
            return finding(MISSING);
        }
        if (!board.has(at, TAKEN[kind])) {
            return finding(BEYOND);
        }
        if (!board.holdsTask(kind, at)) {
            return finding(SIZE);
        }
        if (tasks.count >= MOST_TASKS) {
            return finding(FULL);
        }
        int made = tasks.add(kind, board, at);
        acts.add(Acts.TASK, made, 0);
        forgetPlans();
        return made;
    }

    public int after(int task, int other) {
        if (!tasks.has(task) || !tasks.has(other)) {
            return finding(BEYOND);
        }
        int inRing = tasks.ringOf(task, other);
        if (inRing != 0) {
            ring = inRing;
            return finding(RING);
        }
        return changeBefore(task, tasks.before[task] | 1 << other);
    }

    public int away(int task, int other) {
        if (!tasks.has(task) || !tasks.has(other)) {
            return finding(BEYOND);
        }
        if (!hasBit(tasks.before[task], other)) {
            return finding(NONE);
        }
        return changeBefore(task, tasks.before[task] & ~(1 << other));
    }

    public int as(int task, int kind) {
        if (!tasks.has(task) || !isKind(kind)) {
            return finding(BEYOND);
        }
        return isUnder(tasks.kind[task], kind) ? task : finding(KIND);
    }

    public int ask(int task, int what) {
        if (!tasks.has(task)) {
            return finding(BEYOND);
        }
        switch (what) {
            case 0:
                return tasks.kind[task];
            case 1:
                return tasks.easy[task];
            case 2:
                return tasks.hard[task];
            case 3:
                return tasks.price[task];
            case 4:
                return tasks.extra[task];
            case 5:
                return tasks.step[task];
            default:
                return finding(BEYOND);
        }
    }

    public int follows(int task, int other) {
        if (!tasks.has(task) || !tasks.has(other)) {
            return finding(BEYOND);
        }
        if (hasBit(tasks.before[task], other)) {
            return 1;
        }
        return hasBit(tasks.allBefore(task), other) ? 2 : 0;
    }

    public int order(int k) {
        if (!tasks.has(k)) {
            return finding(NONE);
        }
        tasks.arrange(timing.row);
        return timing.row[k];
    }

    // ---- told spans

    public int span(int task, int x) {
        if (!tasks.has(task) || !tasks.allows(task, x)) {
            return finding(BEYOND);
        }
        int was = tasks.told[task];
        tasks.told[task] = x;
        acts.add(Acts.SPAN, task, was);
        return was;
    }

    public int length() {
        return timing.beginEarly(tasks, tasks.told);
    }

    public int early(int task, boolean late) {
        if (!tasks.has(task)) {
            return finding(BEYOND);
        }
        timing.beginBoth(tasks, tasks.told);
        return late ? timing.lates[task] : timing.earlies[task];
    }

    public int tight() {
        timing.beginBoth(tasks, tasks.told);
        int bits = 0;
        for (int task = 0; task < tasks.count; task++) {
            if (timing.earlies[task] == timing.lates[task]) {
                bits |= 1 << task;
            }
        }
        return bits;
    }

    public long toldCost() {
        long sum = 0;
        for (int task = 0; task < tasks.count; task++) {
            sum += tasks.costOf(task, tasks.told[task]);
        }
        return sum;
    }

    // ---- the bend

    public int longest(boolean hard) {
        return timing.beginEarly(tasks, hard ? tasks.hard : tasks.easy);
    }

    public long cheapest(int n, int d) {
        if (d < 1 || d > MOST_PARTS) {
            return finding(SIZE);
        }
        readyCurve();
        if (n < (long) shortest() * d) {
            return finding(SHORT);
        }
        Bend bend = curve.bendFor(n / d);
        return bend.cost * d - bend.slope * (n - (long) bend.length * d);
    }

    public long slope(int n) {
        readyCurve();
        int wrong = lengthFinding(n);
        return wrong != 0 ? finding(wrong) : curve.bendFor(n).slope;
    }

    public int bends() {
        readyCurve();
        return curve.count;
    }

    public int bend(int k) {
        readyCurve();
        if (k < 0 || k >= curve.count) {
            return finding(NONE);
        }
        return curve.bendAt(curve.count - 1 - k).length;
    }

    public long within(long sum) {
        readyCurve();
        if (curve.bendAt(0).cost > sum) {
            return finding(NONE);
        }
        int met = curve.lastWithin(sum);
        Bend bend = curve.bendAt(met);
        if (met == curve.count - 1) {
            below = 1;
            return bend.length;
        }
        long divisor = curve.bendAt(met + 1).slope;
        long above = bend.length * divisor - (sum - bend.cost);
        long common = commonDivisor(above, divisor);
        below = (int) (divisor / common);
        return above / common;
    }

    // ---- plans

    public int plan(int n) {
        readyCurve();
        int wrong = lengthFinding(n);
        if (wrong != 0) {
            return finding(wrong);
        }
        hasPlan = true;
        planFor = n;
        Bend bend = curve.bendFor(n);
        int end = 0;
        for (int task = 0; task < tasks.count; task++) {
            end = Math.max(end, bend.endAt(task, n));
        }
        return end;
    }

    public int planned(int task, boolean span) {
        if (!hasPlan) {
            return finding(NONE);
        }
        if (!tasks.has(task)) {
            return finding(BEYOND);
        }
        readyCurve();
        Bend bend = curve.bendFor(planFor);
        return span ? bend.spanAt(task, planFor) : bend.beginAt(task, planFor);
    }

    public long cost() {
        if (!hasPlan) {
            return finding(NONE);
        }
        readyCurve();
        return curve.bendFor(planFor).costAt(planFor);
    }

    public int hurried(int n, boolean eased) {
        readyCurve();
        int wrong = lengthFinding(n);
        if (wrong != 0) {
            return finding(wrong);
        }
        Bend here = curve.bendFor(n);
        Bend next = curve.bendFor(n + 1);
        int bits = 0;
        for (int task = 0; task < tasks.count; task++) {
            int change = next.spanAt(task, n + 1) - here.spanAt(task, n);
            if (eased ? change < 0 : change > 0) {
                bits |= 1 << task;
            }
        }
        return bits;
    }

    public int tell(int v) {
        if (waitingCount >= MOST_WAITING) {
            return finding(FULL);
        }
        waiting[waitingCount] = v;
        waitingCount++;
        return waitingCount;
    }

    public int check(int n) {
        int heard = waitingCount;
        waitingCount = 0;
        readyCurve();
        // Below SHORTEST some task is always wrong, so SHORT means something only if asked first.
        if (n < shortest()) {
            return finding(SHORT);
        }
        long sum = 0;
        for (int task = 0; task < tasks.count; task++) {
            if (isToldWrong(task, n, heard)) {
                return CHECK_WRONG + task;
            }
            sum += tasks.costOf(task, waiting[2 * task + 1]);
        }
        if (heard > 2 * tasks.count) {
            return CHECK_MORE;
        }
        return sum > curve.bendFor(n).costAt(n) ? CHECK_DEARER : CHECK_CHEAPEST;
    }

    // ---- the whole

    public int undo() {
        if (acts.count == 0) {
            return finding(NONE);
        }
        acts.count--;
        int task = acts.task[acts.count];
        int was = acts.was[acts.count];
        switch (acts.what[acts.count]) {
            case Acts.TASK:
                tasks.count = task;
                forgetPlans();
                break;
            case Acts.BEFORE:
                tasks.before[task] = was;
                forgetPlans();
                break;
            default:
                tasks.told[task] = was;
                break;
        }
        return acts.count;
    }

    public int keep() {
        kept.become(tasks);
        hasKept = true;
        return kept.count;
    }

    public int back() {
        if (!hasKept) {
            return finding(NONE);
        }
        tasks.become(kept);
        acts.count = 0;
        forgetPlans();
        return tasks.count;
    }

    public int told(int what) {
        switch (what) {
            case 0:
                return ring;
            case 1:
                return below;
            case 2:
                return tasks.count;
            case 3:
                return tasks.pairs();
            case 4:
                return waitingCount;
            case 5:
                return hasPlan ? 1 : 0;
            case 6:
                return findings;
            default:
                return finding(BEYOND);
        }
    }

    private int finding(int which) {
        findings++;
        return which;
    }

    private static boolean isBoard(int b) {
        return b >= 0 && b < MOST_BOARDS;
    }

    private static boolean isKind(int kind) {
        return kind >= 0 && kind < TAKEN.length;
    }

    private static boolean isUnder(int kind, int upper) {
        int now = kind;
        for (int steps = 0; steps < UNDER.length && isKind(now); steps++) {
            if (now == upper) {
                return true;
            }
            now = UNDER[now];
        }
        return false;
    }

    private static boolean hasBit(int bits, int which) {
        return (bits >> which & 1) != 0;
    }

    /** Of two numbers from 0 on that are not both 0. */
    private static long commonDivisor(long one, long other) {
        long a = one;
        long b = other;
        for (int steps = 0; steps < 100 && b != 0; steps++) {
            long rest = a % b;
            a = b;
            b = rest;
        }
        return a == 0 ? 1 : a;
    }

    /** The curve stays as it is while only told spans change, and so do the plans read from it. */
    private void forgetPlans() {
        hasPlan = false;
        curve.count = 0;
    }

    private void readyCurve() {
        if (curve.count == 0) {
            curve.draw(tasks, longest(true));
        }
    }

    private int shortest() {
        return curve.bendAt(curve.count - 1).length;
    }

    private int lengthFinding(int n) {
        if (n < shortest()) {
            return SHORT;
        }
        return n > MOST_LENGTH ? BEYOND : 0;
    }

    private int changeBefore(int task, int bits) {
        acts.add(Acts.BEFORE, task, tasks.before[task]);
        tasks.before[task] = bits;
        forgetPlans();
        return Integer.bitCount(bits);
    }

    private boolean isToldWrong(int task, int n, int heard) {
        if (2 * task + 1 >= heard) {
            return true;
        }
        int begin = waiting[2 * task];
        int x = waiting[2 * task + 1];
        if (!tasks.allows(task, x) || begin < 0 || (long) begin + x > n) {
            return true;
        }
        for (int other = 0; other < tasks.count; other++) {
            boolean isTold = 2 * other + 1 < heard;
            if (isTold && hasBit(tasks.before[task], other)
                    && begin < (long) waiting[2 * other] + waiting[2 * other + 1]) {
                return true;
            }
        }
        return false;
    }

    private static final class Board {
        /** 0: the board is MISSING. */
        int bits;
        int size;
        final long[] numbers = new long[MOST_NUMBERS];

        void lay(int newBits, int newSize) {
            bits = newBits;
            size = newSize;
            Arrays.fill(numbers, 0L);
        }

        boolean isMissing() {
            return bits == 0;
        }

        boolean has(int at, int n) {
            return at >= 0 && n >= 0 && at <= size - n;
        }

        void write(int i, long v) {
            numbers[i] = bits == 32 ? (int) v : v;
        }

        boolean holdsTask(int kind, int at) {
            if (!isWithin(at, MOST_SPAN)) {
                return false;
            }
            if (TAKEN[kind] == 1) {
                return true;
            }
            if (!isWithin(at + 1, numbers[at]) || !isWithin(at + 2, MOST_PRICE)) {
                return false;
            }
            if (kind == STEPPED) {
                return isWithin(at + 3, MOST_SPAN) && isWithin(at + 4, MOST_PRICE);
            }
            return kind != RENTED || isWithin(at + 3, MOST_PRICE);
        }

        private boolean isWithin(int at, long most) {
            return numbers[at] >= 0 && numbers[at] <= most;
        }
    }

    private static final class Tasks {
        int count;
        final int[] kind = new int[MOST_TASKS];
        final int[] easy = new int[MOST_TASKS];
        final int[] hard = new int[MOST_TASKS];
        final int[] price = new int[MOST_TASKS];
        /** k of STEPPED, r of RENTED. */
        final int[] extra = new int[MOST_TASKS];
        /** m of STEPPED. */
        final int[] step = new int[MOST_TASKS];
        final int[] told = new int[MOST_TASKS];
        /** Bits of the tasks that each one follows. */
        final int[] before = new int[MOST_TASKS];

        boolean has(int task) {
            return task >= 0 && task < count;
        }

        boolean allows(int task, int x) {
            return x >= hard[task] && x <= easy[task];
        }

        int add(int newKind, Board board, int at) {
            int task = count;
            int taken = TAKEN[newKind];
            kind[task] = newKind;
            easy[task] = (int) board.numbers[at];
            hard[task] = taken > 1 ? (int) board.numbers[at + 1] : easy[task];
            price[task] = taken > 2 ? (int) board.numbers[at + 2] : 0;
            extra[task] = taken > 3 ? (int) board.numbers[at + 3] : 0;
            step[task] = taken > 4 ? (int) board.numbers[at + 4] : 0;
            told[task] = easy[task];
            before[task] = 0;
            count++;
            return task;
        }

        void become(Tasks other) {
            count = other.count;
            System.arraycopy(other.kind, 0, kind, 0, MOST_TASKS);
            System.arraycopy(other.easy, 0, easy, 0, MOST_TASKS);
            System.arraycopy(other.hard, 0, hard, 0, MOST_TASKS);
            System.arraycopy(other.price, 0, price, 0, MOST_TASKS);
            System.arraycopy(other.extra, 0, extra, 0, MOST_TASKS);
            System.arraycopy(other.step, 0, step, 0, MOST_TASKS);
            System.arraycopy(other.told, 0, told, 0, MOST_TASKS);
            System.arraycopy(other.before, 0, before, 0, MOST_TASKS);
        }

        long costOf(int task, int x) {
            long sum = (long) price[task] * (easy[task] - x);
            if (kind[task] == STEPPED) {
                sum += (long) step[task] * Math.max(0, easy[task] - extra[task] - x);
            }
            if (kind[task] == RENTED) {
                sum += (long) extra[task] * x;
            }
            return sum;
        }

        /** What all cost when the length is free: a task's cost only falls or only rises with x. */
        long leastCost() {
            long sum = 0;
            for (int task = 0; task < count; task++) {
                sum += Math.min(costOf(task, easy[task]), costOf(task, hard[task]));
            }
            return sum;
        }

        int pairs() {
            int sum = 0;
            for (int task = 0; task < count; task++) {
                sum += Integer.bitCount(before[task]);
            }
            return sum;
        }

        /** Bits of the tasks that one follows, by rows of others too. */
        int allBefore(int task) {
            int bits = before[task];
            int known = 0;
            for (int round = 0; round < count && bits != known; round++) {
                known = bits;
                for (int other = 0; other < count; other++) {
                    if (hasBit(known, other)) {
                        bits |= before[other];
                    }
                }
            }
            return bits;
        }

        /** Bits of the tasks that would follow themselves if task came to follow other. */
        int ringOf(int task, int other) {
            int reached = allBefore(other) | 1 << other;
            if (!hasBit(reached, task)) {
                return 0;
            }
            int bits = 1 << task;
            for (int between = 0; between < count; between++) {
                if (hasBit(reached, between) && hasBit(allBefore(between), task)) {
                    bits |= 1 << between;
                }
            }
            return bits;
        }

        /** The row has the lowest task next that follows none that has not come yet. */
        void arrange(int[] row) {
            int come = 0;
            for (int place = 0; place < count; place++) {
                int next = 0;
                for (int task = count - 1; task >= 0; task--) {
                    if (!hasBit(come, task) && (before[task] & ~come) == 0) {
                        next = task;
                    }
                }
                row[place] = next;
                come |= 1 << next;
            }
        }
    }

    /** The latest acts that can be undone, each with what it changed. */
    private static final class Acts {
        static final int TASK = 0;
        static final int BEFORE = 1;
        static final int SPAN = 2;

        int count;
        final int[] what = new int[MOST_UNDONE];
        final int[] task = new int[MOST_UNDONE];
        final int[] was = new int[MOST_UNDONE];

        void add(int newWhat, int newTask, int newWas) {
            if (count >= MOST_UNDONE) {
                count = MOST_UNDONE - 1;
                System.arraycopy(what, 1, what, 0, count);
                System.arraycopy(task, 1, task, 0, count);
                System.arraycopy(was, 1, was, 0, count);
            }
            what[count] = newWhat;
            task[count] = newTask;
            was[count] = newWas;
            count++;
        }
    }

    /** When tasks begin if each has a span that is set. */
    private static final class Timing {
        final int[] row = new int[MOST_TASKS];
        final int[] earlies = new int[MOST_TASKS];
        final int[] lates = new int[MOST_TASKS];

        int beginEarly(Tasks tasks, int[] spans) {
            tasks.arrange(row);
            int end = 0;
            for (int place = 0; place < tasks.count; place++) {
                int task = row[place];
                int begin = 0;
                for (int ahead = 0; ahead < place; ahead++) {
                    int other = row[ahead];
                    if (hasBit(tasks.before[task], other)) {
                        begin = Math.max(begin, earlies[other] + spans[other]);
                    }
                }
                earlies[task] = begin;
                end = Math.max(end, begin + spans[task]);
            }
            return end;
        }

        void beginBoth(Tasks tasks, int[] spans) {
            int length = beginEarly(tasks, spans);
            for (int place = tasks.count - 1; place >= 0; place--) {
                int task = row[place];
                int end = length;
                for (int behind = place + 1; behind < tasks.count; behind++) {
                    int other = row[behind];
                    if (hasBit(tasks.before[other], task)) {
                        end = Math.min(end, lates[other]);
                    }
                }
                lates[task] = end - spans[task];
            }
        }
    }

    /**
     * A bend, with the straight stretch of CHEAPEST that goes up in length from it, and THE PLANS
     * of that stretch: a moment in them is either set from the start on, or goes with the length.
     */
    private static final class Bend {
        int length;
        long cost;
        long slope;
        final int[] begins = new int[MOST_TASKS];
        final int[] ends = new int[MOST_TASKS];
        final int[] beginsLess = new int[MOST_TASKS];
        final int[] endsLess = new int[MOST_TASKS];

        long costAt(int n) {
            return cost - slope * (n - length);
        }

        int beginAt(int task, int n) {
            return Math.max(begins[task], n + beginsLess[task]);
        }

        int endAt(int task, int n) {
            return Math.max(ends[task], n + endsLess[task]);
        }

        int spanAt(int task, int n) {
            return endAt(task, n) - beginAt(task, n);
        }
    }

    /** All bends, the greatest length first. */
    private static final class Curve {
        /** 0: the curve is not drawn. */
        int count;
        /** Rows are made when they are first needed, and used again by later curves. */
        private final Bend[] rows = new Bend[MOST_BENDS];
        private final Net net = new Net();

        Bend bendAt(int which) {
            if (rows[which] == null) {
                rows[which] = new Bend();
            }
            return rows[which];
        }

        /**
         * The flow of the net is the slope of the cost: for each slope in turn the length down to
         * which it reaches is the next bend.
         */
        void draw(Tasks tasks, int shortest) {
            net.lay(tasks);
            long cost = tasks.leastCost();
            long slope = 0;
            int above = 0;
            boolean more = true;
            for (count = 0; more && count < MOST_BENDS; count++) {
                Bend bend = bendAt(count);
                int length = net.riseFromStart(bend.begins, bend.ends);
                net.riseFromEnd(bend.beginsLess, bend.endsLess);
                cost += slope * (above - length);
                bend.length = length;
                bend.cost = cost;
                bend.slope = slope;
                above = length;
                more = length > shortest;
                if (more) {
                    slope += net.push(bend.begins, bend.ends, length);
                }
            }
        }

        Bend bendFor(int n) {
            int which = 0;
            while (which < count - 1 && bendAt(which).length > n) {
                which++;
            }
            return bendAt(which);
        }

        /** The last bend, of least length, that does not cost more than a sum. */
        int lastWithin(long sum) {
            int which = 0;
            while (which < count - 1 && bendAt(which + 1).cost <= sum) {
                which++;
            }
            return which;
        }
    }

    /**
     * The flow that is dual to the cheapest plans. Each task is a way from its begin to its end
     * with room for as much flow at each span as it costs to make the span one shorter; pairs
     * that follow are ways without a span and with endless room.
     */
    private static final class Net {
        private static final int ENDLESS = 1 << 30;
        private static final int FAR = -1000000;
        private static final int UNSEEN = -1;
        private static final int ROOT = -2;
        private static final int NODES = 2 * MOST_TASKS;
        /** Each round brings the longest ways at least one node on. */
        private static final int MOST_ROUNDS = 4 * MOST_TASKS;
        /** Far above what shortest ways to push along can need. */
        private static final int MOST_PUSHES = 100000;

        private int count;
        private final int[] row = new int[MOST_TASKS];
        /** Pairs that a row of others brings about are left out: they ask for nothing more. */
        private final int[] before = new int[MOST_TASKS];
        /** Bits of the tasks that are followed. */
        private int followed;
        private final int[] easy = new int[MOST_TASKS];
        private final int[] mid = new int[MOST_TASKS];
        private final int[] hard = new int[MOST_TASKS];
        /** Flow at the easy span, and at the easy and the middle one together, at most. */
        private final int[] easyRoom = new int[MOST_TASKS];
        private final int[] midRoom = new int[MOST_TASKS];
        private final int[] through = new int[MOST_TASKS];
        private final int[] passed = new int[MOST_TASKS * MOST_TASKS];
        private final int[] out = new int[MOST_TASKS];
        /** Nodes are twice the task for its begin, and one more for its end. */
        private final int[] from = new int[NODES];
        private final int[] queue = new int[NODES];
        private int queued;

        void lay(Tasks tasks) {
            count = tasks.count;
            tasks.arrange(row);
            Arrays.fill(through, 0);
            Arrays.fill(passed, 0);
            Arrays.fill(out, 0);
            followed = 0;
            for (int task = 0; task < count; task++) {
                layPairs(tasks, task);
                layRoom(tasks, task);
            }
        }

        private void layPairs(Tasks tasks, int task) {
            int further = 0;
            for (int other = 0; other < count; other++) {
                if (hasBit(tasks.before[task], other)) {
                    further |= tasks.allBefore(other);
                }
            }
            before[task] = tasks.before[task] & ~further;
            followed |= before[task];
        }

        private void layRoom(Tasks tasks, int task) {
            easy[task] = tasks.easy[task];
            hard[task] = tasks.hard[task];
            int rent = tasks.kind[task] == RENTED ? tasks.extra[task] : 0;
            // Where rent is not below the price, easing never saves: the hard span is as cheap.
            easyRoom[task] = easy[task] > hard[task] ? Math.max(0, tasks.price[task] - rent) : 0;
            int stepFrom = easy[task] - tasks.extra[task];
            boolean steps = tasks.kind[task] == STEPPED && stepFrom > hard[task];
            mid[task] = steps ? stepFrom : hard[task];
            midRoom[task] = easyRoom[task] + (steps ? tasks.step[task] : 0);
        }

        /** The span at which one more would flow through a task. */
        private int spanOn(int task) {
            if (through[task] < easyRoom[task]) {
                return easy[task];
            }
            return through[task] < midRoom[task] ? mid[task] : hard[task];
        }

        private int roomOn(int task) {
            if (through[task] < easyRoom[task]) {
                return easyRoom[task] - through[task];
            }
            return through[task] < midRoom[task] ? midRoom[task] - through[task] : ENDLESS;
        }

        /** The span at which the last one flows through a task. */
        private int spanOff(int task) {
            if (through[task] <= easyRoom[task]) {
                return easy[task];
            }
            return through[task] <= midRoom[task] ? mid[task] : hard[task];
        }

        private int roomOff(int task) {
            if (through[task] <= easyRoom[task]) {
                return through[task];
            }
            return through[task] - (through[task] <= midRoom[task] ? easyRoom[task] : midRoom[task]);
        }

        /** The least moments that the flow asks for, whatever the length: the least length. */
        int riseFromStart(int[] begins, int[] ends) {
            Arrays.fill(begins, 0);
            Arrays.fill(ends, 0);
            rise(begins, ends);
            int length = 0;
            for (int task = 0; task < count; task++) {
                length = Math.max(length, ends[task]);
            }
            return length;
        }

        /** The least moments that the flow asks for where it leaves tasks at the length. */
        void riseFromEnd(int[] begins, int[] ends) {
            Arrays.fill(begins, FAR);
            Arrays.fill(ends, FAR);
            boolean leaves = false;
            for (int task = 0; task < count; task++) {
                if (out[task] > 0) {
                    ends[task] = 0;
                    leaves = true;
                }
            }
            if (leaves) {
                rise(begins, ends);
            }
        }

        private void rise(int[] begins, int[] ends) {
            boolean moved = true;
            for (int round = 0; moved && round < MOST_ROUNDS; round++) {
                moved = riseOn(begins, ends);
                if (riseOff(begins, ends)) {
                    moved = true;
                }
            }
        }

        private boolean riseOn(int[] begins, int[] ends) {
            boolean moved = false;
            for (int place = 0; place < count; place++) {
                int task = row[place];
                int begin = begins[task];
                for (int ahead = 0; ahead < place; ahead++) {
                    int other = row[ahead];
                    if (hasBit(before[task], other)) {
                        begin = Math.max(begin, ends[other]);
                    }
                }
                int end = Math.max(ends[task], begin + spanOn(task));
                moved = moved || begin > begins[task] || end > ends[task];
                begins[task] = begin;
                ends[task] = end;
            }
            return moved;
        }

        private boolean riseOff(int[] begins, int[] ends) {
            boolean moved = false;
            for (int place = count - 1; place >= 0; place--) {
                int task = row[place];
                if (through[task] > 0) {
                    int begin = Math.max(begins[task], ends[task] - spanOff(task));
                    moved = moved || begin > begins[task];
                    begins[task] = begin;
                    for (int ahead = 0; ahead < place; ahead++) {
                        int other = row[ahead];
                        if (passed[other * MOST_TASKS + task] > 0 && ends[other] < begin) {
                            ends[other] = begin;
                            moved = true;
                        }
                    }
                }
            }
            return moved;
        }

        /** As much more flow as ways of a length take: how much. */
        int push(int[] begins, int[] ends, int length) {
            int sum = 0;
            int last = findWay(begins, ends, length);
            for (int pushes = 0; pushes < MOST_PUSHES && last >= 0; pushes++) {
                int room = roomOfWay(last);
                flowAlong(last, room);
                sum += room;
                last = findWay(begins, ends, length);
            }
            return sum;
        }

        /** The task at the end of a way from the start that is as long as told, or UNSEEN. */
        private int findWay(int[] begins, int[] ends, int length) {
            Arrays.fill(from, UNSEEN);
            queued = 0;
            for (int task = 0; task < count; task++) {
                if (before[task] == 0 && begins[task] == 0) {
                    reach(2 * task, ROOT);
                }
            }
            for (int done = 0; done < queued; done++) {
                int task = queue[done] / 2;
                if (queue[done] % 2 == 0) {
                    leaveBegin(task, begins, ends);
                } else if (ends[task] == length && !hasBit(followed, task)) {
                    return task;
                } else {
                    leaveEnd(task, begins, ends);
                }
            }
            return UNSEEN;
        }

        private void reach(int node, int origin) {
            if (from[node] == UNSEEN && queued < NODES) {
                from[node] = origin;
                queue[queued] = node;
                queued++;
            }
        }

        private void leaveBegin(int task, int[] begins, int[] ends) {
            if (begins[task] + spanOn(task) == ends[task]) {
                reach(2 * task + 1, 2 * task);
            }
            for (int other = 0; other < count; other++) {
                if (passed[other * MOST_TASKS + task] > 0 && ends[other] == begins[task]) {
                    reach(2 * other + 1, 2 * task);
                }
            }
        }

        private void leaveEnd(int task, int[] begins, int[] ends) {
            if (through[task] > 0 && begins[task] + spanOff(task) == ends[task]) {
                reach(2 * task, 2 * task + 1);
            }
            for (int other = 0; other < count; other++) {
                if (hasBit(before[other], task) && begins[other] == ends[task]) {
                    reach(2 * other, 2 * task + 1);
                }
            }
        }

        private int roomOfWay(int last) {
            int room = ENDLESS;
            int node = 2 * last + 1;
            for (int steps = 0; steps < NODES && from[node] >= 0; steps++) {
                room = Math.min(room, roomBetween(from[node], node));
                node = from[node];
            }
            return room;
        }

        private int roomBetween(int node, int next) {
            int task = node / 2;
            boolean isBegin = node % 2 == 0;
            if (next / 2 == task) {
                return isBegin ? roomOn(task) : roomOff(task);
            }
            return isBegin ? passed[next / 2 * MOST_TASKS + task] : ENDLESS;
        }

        private void flowAlong(int last, int amount) {
            int node = 2 * last + 1;
            for (int steps = 0; steps < NODES && from[node] >= 0; steps++) {
                flowBetween(from[node], node, amount);
                node = from[node];
            }
            out[last] += amount;
        }

        private void flowBetween(int node, int next, int amount) {
            int task = node / 2;
            int other = next / 2;
            boolean isBegin = node % 2 == 0;
            if (other == task) {
                through[task] += isBegin ? amount : -amount;
            } else if (isBegin) {
                passed[other * MOST_TASKS + task] -= amount;
            } else {
                passed[task * MOST_TASKS + other] += amount;
            }
        }
    }
}
