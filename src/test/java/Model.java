import java.math.BigInteger;
import java.util.ArrayDeque;
import java.util.ArrayList;
import java.util.Deque;
import java.util.HashMap;
import java.util.List;
import java.util.Map;

/** The document told again in the plainest way: whole states are stored, and nothing is saved. */
final class Model {
    private static final int[] TAKEN = {3, 1, 5, 1, 4};

    private final long[][] boards = new long[4][];
    private final int[] bits = new int[4];
    private List<Job> jobs = new ArrayList<>();
    private List<Job> kept = null;
    private final Deque<List<Job>> undone = new ArrayDeque<>();
    private final Deque<Boolean> spansOnly = new ArrayDeque<>();
    private final List<Integer> waiting = new ArrayList<>();
    private final Map<Integer, Reckoning> reckoned = new HashMap<>();
    private Reckoning plan = null;
    private int ring = 0;
    private long below = 1;
    private int findings = 0;

    private long finding(long which) {
        findings++;
        return which;
    }

    private boolean noTask(int task) {
        return task < 0 || task >= jobs.size();
    }

    private static boolean noBoard(int b) {
        return b < 0 || b > 3;
    }

    private static List<Job> copyOf(List<Job> jobs) {
        List<Job> copy = new ArrayList<>();
        for (Job job : jobs) {
            copy.add(new Job(job));
        }
        return copy;
    }

    private void done(boolean spanOnly) {
        undone.addLast(copyOf(jobs));
        spansOnly.addLast(spanOnly);
        if (undone.size() > 30) {
            undone.removeFirst();
            spansOnly.removeFirst();
        }
        if (!spanOnly) {
            changed();
        }
    }

    private void changed() {
        plan = null;
        reckoned.clear();
    }

    private Reckoning at(int t) {
        // Nothing is cheaper or earlier beyond the longest, and begins there do not change.
        int near = Math.min(t, (int) longest(false) + 1);
        return reckoned.computeIfAbsent(near, k -> new Reckoning(jobs, k));
    }

    private int[] spans(int which) {
        int[] spans = new int[jobs.size()];
        for (int i = 0; i < spans.length; i++) {
            spans[i] = which == 0 ? jobs.get(i).told : which == 1 ? jobs.get(i).e : jobs.get(i).h;
        }
        return spans;
    }

    private int lengthOf(int[] spans) {
        int[] early = Trial.earlies(jobs, spans);
        int length = 0;
        for (int i = 0; i < spans.length; i++) {
            length = Math.max(length, early[i] + spans[i]);
        }
        return length;
    }

    private boolean reaches(int task, int other) {
        for (int i = 0; i < jobs.size(); i++) {
            if (jobs.get(task).follows(i) && (i == other || reaches(i, other))) {
                return true;
            }
        }
        return false;
    }

    long board(int b, int newBits, int n) {
        if (noBoard(b) || newBits != 0 && newBits != 32 && newBits != 64) {
            return finding(-1);
        }
        if (n < 0) {
            return finding(-3);
        }
        if (n > 24) {
            return finding(-1);
        }
        boards[b] = newBits == 0 ? null : new long[n];
        bits[b] = newBits;
        return newBits == 0 ? 0 : n;
    }

    long put(int b, int i, long v) {
        if (noBoard(b)) {
            return finding(-1);
        }
        if (boards[b] == null) {
            return finding(-2);
        }
        if (i < 0 || i >= boards[b].length) {
            return finding(-1);
        }
        boards[b][i] = bits[b] == 32 ? (int) v : v;
        return 0;
    }

    long copy(int b, int from, int c, int to, int n) {
        if (noBoard(b) || noBoard(c)) {
            return finding(-1);
        }
        if (boards[b] == null || boards[c] == null) {
            return finding(-2);
        }
        if (bits[b] != bits[c]) {
            return finding(-4);
        }
        if (from < 0 || to < 0 || n < 0 || (long) from + n > boards[b].length
                || (long) to + n > boards[c].length) {
            return finding(-1);
        }
        long[] old = boards[b].clone();
        for (int i = 0; i < n; i++) {
            boards[c][to + i] = old[from + i];
        }
        return n;
    }

    long task(int kind, int b, int at) {
        if (kind < 0 || kind > 4 || noBoard(b)) {
            return finding(-1);
        }
        if (boards[b] == null) {
            return finding(-2);
        }
        if (at < 0 || (long) at + TAKEN[kind] > boards[b].length) {
            return finding(-1);
        }
        long[] most = {60, boards[b][at], 100000, kind == 2 ? 60 : 100000, 100000};
        for (int i = 0; i < TAKEN[kind]; i++) {
            if (boards[b][at + i] < 0 || boards[b][at + i] > most[i]) {
                return finding(-3);
            }
        }
        if (jobs.size() == 12) {
            return finding(-5);
        }
        done(false);
        jobs.add(new Job(kind, java.util.Arrays.copyOfRange(boards[b], at, at + TAKEN[kind])));
        return jobs.size() - 1;
    }

    long after(int task, int other) {
        if (noTask(task) || noTask(other)) {
            return finding(-1);
        }
        int before = jobs.get(task).before;
        if (task == other || reaches(other, task)) {
            // Rings are looked for in the pairs as they would be, one step deep at a time.
            int found = 0;
            for (int i = 0; i < jobs.size(); i++) {
                boolean toTask = i == task || reaches(i, task);
                boolean fromOther = i == other || reaches(other, i);
                if (toTask && fromOther) {
                    found |= 1 << i;
                }
            }
            ring = found;
            return finding(-6);
        }
        done(false);
        jobs.get(task).before = before | 1 << other;
        return Integer.bitCount(jobs.get(task).before);
    }

    long away(int task, int other) {
        if (noTask(task) || noTask(other)) {
            return finding(-1);
        }
        if (!jobs.get(task).follows(other)) {
            return finding(-7);
        }
        done(false);
        jobs.get(task).before ^= 1 << other;
        return Integer.bitCount(jobs.get(task).before);
    }

    long as(int task, int kind) {
        if (noTask(task) || kind < 0 || kind > 4) {
            return finding(-1);
        }
        int own = jobs.get(task).kind;
        return kind == 0 || own == kind || own == 3 && kind == 1 ? task : finding(-4);
    }

    long ask(int task, int what) {
        if (noTask(task) || what < 0 || what > 5) {
            return finding(-1);
        }
        Job job = jobs.get(task);
        return new int[] {job.kind, job.e, job.h, job.p, job.extra, job.m}[what];
    }

    long follows(int task, int other) {
        if (noTask(task) || noTask(other)) {
            return finding(-1);
        }
        return jobs.get(task).follows(other) ? 1 : reaches(task, other) ? 2 : 0;
    }

    long order(int k) {
        List<Integer> come = new ArrayList<>();
        for (int place = 0; place < jobs.size(); place++) {
            for (int i = 0; i < jobs.size(); i++) {
                boolean free = !come.contains(i);
                for (int j = 0; j < jobs.size(); j++) {
                    free = free && (!jobs.get(i).follows(j) || come.contains(j));
                }
                if (free) {
                    come.add(i);
                    break;
                }
            }
        }
        return k < 0 || k >= come.size() ? finding(-7) : come.get(k);
    }

    long span(int task, int x) {
        if (noTask(task) || x < jobs.get(task).h || x > jobs.get(task).e) {
            return finding(-1);
        }
        done(true);
        int was = jobs.get(task).told;
        jobs.get(task).told = x;
        return was;
    }

    long length() {
        return lengthOf(spans(0));
    }

    /** The greatest begin by holding the task back until the whole becomes longer. */
    long early(int task, boolean late) {
        if (noTask(task)) {
            return finding(-1);
        }
        return late ? lateOf(task) : Trial.earlies(jobs, spans(0))[task];
    }

    private int lateOf(int task) {
        int[] spans = spans(0);
        int[] behind = new int[spans.length];
        for (int round = 0; round <= spans.length; round++) {
            for (int i = 0; i < spans.length; i++) {
                behind[i] = Math.max(behind[i], spans[i]);
                for (int j = 0; j < spans.length; j++) {
                    if (jobs.get(j).follows(i)) {
                        behind[i] = Math.max(behind[i], spans[i] + behind[j]);
                    }
                }
            }
        }
        return lengthOf(spans) - behind[task];
    }

    long tight() {
        int found = 0;
        for (int i = 0; i < jobs.size(); i++) {
            found |= lateOf(i) == Trial.earlies(jobs, spans(0))[i] ? 1 << i : 0;
        }
        return found;
    }

    long toldCost() {
        long sum = 0;
        for (Job job : jobs) {
            sum += job.cost(job.told);
        }
        return sum;
    }

    long longest(boolean hard) {
        return lengthOf(spans(hard ? 2 : 1));
    }

    long cheapest(int n, int d) {
        if (d < 1 || d > 1000) {
            return finding(-3);
        }
        if (n < longest(true) * d) {
            return finding(-8);
        }
        long low = at(n / d).cost;
        return low * d + (at(n / d + 1).cost - low) * (n % d);
    }

    private long wrongLength(int n) {
        return n < longest(true) ? -8 : n > 1000 ? -1 : 0;
    }

    long slope(int n) {
        long wrong = wrongLength(n);
        return wrong != 0 ? finding(wrong) : at(n).cost - at(n + 1).cost;
    }

    private List<Integer> allBends() {
        List<Integer> found = new ArrayList<>();
        int least = (int) longest(true);
        for (int t = least; t <= longest(false) + 1; t++) {
            if (t == least || at(t).cost - at(t - 1).cost != at(t + 1).cost - at(t).cost) {
                found.add(t);
            }
        }
        return found;
    }

    long bends() {
        return allBends().size();
    }

    long bend(int k) {
        List<Integer> all = allBends();
        return k < 0 || k >= all.size() ? finding(-7) : all.get(k);
    }

    long within(long sum) {
        int least = (int) longest(true);
        int t = least;
        while (at(t).cost > sum) {
            if (t > longest(false)) {
                return finding(-7);
            }
            t++;
        }
        below = 1;
        if (t == least) {
            return t;
        }
        long fall = at(t - 1).cost - at(t).cost;
        long above = t * fall - (sum - at(t).cost);
        long common = BigInteger.valueOf(above).gcd(BigInteger.valueOf(fall)).longValue();
        below = fall / common;
        return above / common;
    }

    long plan(int n) {
        long wrong = wrongLength(n);
        if (wrong != 0) {
            return finding(wrong);
        }
        plan = at(n);
        int length = 0;
        for (int end : plan.ends) {
            length = Math.max(length, end);
        }
        return length;
    }

    long planned(int task, boolean span) {
        if (plan == null) {
            return finding(-7);
        }
        if (noTask(task)) {
            return finding(-1);
        }
        return span ? plan.ends[task] - plan.begins[task] : plan.begins[task];
    }

    long cost() {
        return plan == null ? finding(-7) : plan.cost;
    }

    long hurried(int n, boolean eased) {
        long wrong = wrongLength(n);
        if (wrong != 0) {
            return finding(wrong);
        }
        int found = 0;
        for (int i = 0; i < jobs.size(); i++) {
            int here = at(n).ends[i] - at(n).begins[i];
            int next = at(n + 1).ends[i] - at(n + 1).begins[i];
            found |= (eased ? here > next : here < next) ? 1 << i : 0;
        }
        return found;
    }

    long tell(int v) {
        if (waiting.size() == 60) {
            return finding(-5);
        }
        waiting.add(v);
        return waiting.size();
    }

    long check(int n) {
        List<Integer> heard = new ArrayList<>(waiting);
        waiting.clear();
        if (n < longest(true)) {
            return finding(-8);
        }
        long sum = 0;
        for (int i = 0; i < jobs.size(); i++) {
            if (heard.size() < 2 * i + 2) {
                return 100 + i;
            }
            long begin = heard.get(2 * i);
            int x = heard.get(2 * i + 1);
            boolean wrong = x < jobs.get(i).h || x > jobs.get(i).e || begin < 0 || begin + x > n;
            for (int j = 0; j < jobs.size(); j++) {
                if (jobs.get(i).follows(j) && heard.size() >= 2 * j + 2) {
                    wrong |= begin < (long) heard.get(2 * j) + heard.get(2 * j + 1);
                }
            }
            if (wrong) {
                return 100 + i;
            }
            sum += jobs.get(i).cost(x);
        }
        if (heard.size() > 2 * jobs.size()) {
            return 90;
        }
        return sum == at(n).cost ? 0 : 1;
    }

    long undo() {
        if (undone.isEmpty()) {
            return finding(-7);
        }
        jobs = undone.removeLast();
        if (!spansOnly.removeLast()) {
            changed();
        }
        return undone.size();
    }

    long keep() {
        kept = copyOf(jobs);
        return kept.size();
    }

    long back() {
        if (kept == null) {
            return finding(-7);
        }
        jobs = copyOf(kept);
        undone.clear();
        spansOnly.clear();
        changed();
        return jobs.size();
    }

    long told(int what) {
        int pairs = 0;
        for (Job job : jobs) {
            pairs += Integer.bitCount(job.before);
        }
        if (what < 0 || what > 6) {
            return finding(-1);
        }
        return new long[] {ring, below, jobs.size(), pairs, waiting.size(), plan == null ? 0 : 1,
            findings}[what];
    }
}
