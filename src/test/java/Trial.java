import java.util.List;

/** CHEAPEST(t) and THE PLAN of one whole t by trying all whole spans: for few and small tasks. */
final class Trial {
    boolean isShort = true;
    long cost;
    final int[] begins;
    final int[] ends;

    private final List<Job> jobs;
    private final int t;
    private final int[] spans;

    Trial(List<Job> jobs, int t) {
        this.jobs = jobs;
        this.t = t;
        begins = new int[jobs.size()];
        ends = new int[jobs.size()];
        spans = new int[jobs.size()];
        tryFrom(0);
    }

    private void tryFrom(int i) {
        if (i == jobs.size()) {
            judge();
            return;
        }
        for (int x = jobs.get(i).h; x <= jobs.get(i).e; x++) {
            spans[i] = x;
            tryFrom(i + 1);
        }
    }

    private void judge() {
        int[] early = earlies(jobs, spans);
        long sum = 0;
        for (int i = 0; i < spans.length; i++) {
            if (early[i] + spans[i] > t) {
                return;
            }
            sum += jobs.get(i).cost(spans[i]);
        }
        if (isShort || sum < cost) {
            cost = sum;
            java.util.Arrays.fill(begins, Integer.MAX_VALUE);
            java.util.Arrays.fill(ends, Integer.MAX_VALUE);
        }
        isShort = false;
        for (int i = 0; i < spans.length && sum == cost; i++) {
            begins[i] = Math.min(begins[i], early[i]);
            ends[i] = Math.min(ends[i], early[i] + spans[i]);
        }
    }

    static int[] earlies(List<Job> jobs, int[] spans) {
        int[] early = new int[spans.length];
        for (int round = 0; round < spans.length; round++) {
            for (int i = 0; i < spans.length; i++) {
                for (int j = 0; j < spans.length; j++) {
                    if (jobs.get(i).follows(j)) {
                        early[i] = Math.max(early[i], early[j] + spans[j]);
                    }
                }
            }
        }
        return early;
    }
}
