import java.util.ArrayList;
import java.util.List;

/**
 * CHEAPEST(t) and THE PLAN of one whole t, reckoned in another way than the class does: a
 * circulation of least cost in which circles are cancelled one by one, for each t anew.
 */
final class Reckoning {
    private static final long ENDLESS = 1L << 40;
    final boolean isShort;
    long cost;
    final int[] begins;
    final int[] ends;

    private final List<long[]> arcs = new ArrayList<>();
    private final int nodes;

    Reckoning(List<Job> jobs, int t) {
        int count = jobs.size();
        nodes = 2 * count + 2;
        begins = new int[count];
        ends = new int[count];
        int start = 2 * count;
        int end = start + 1;
        for (int i = 0; i < count; i++) {
            layJob(jobs, i);
            lay(start, 2 * i, ENDLESS, 0);
            lay(2 * i + 1, end, ENDLESS, 0);
            for (int j = 0; j < count; j++) {
                if (jobs.get(i).follows(j)) {
                    lay(2 * j + 1, 2 * i, ENDLESS, 0);
                }
            }
        }
        lay(end, start, ENDLESS, -t);
        isShort = !cancelAll();
        if (!isShort) {
            long[] moments = risenFrom(start);
            for (int i = 0; i < count; i++) {
                begins[i] = (int) moments[2 * i];
                ends[i] = (int) moments[2 * i + 1];
            }
        }
    }

    /** An arc of as much room at x as the price of x to x - 1 is above that of x + 1 to x. */
    private void layJob(List<Job> jobs, int i) {
        Job job = jobs.get(i);
        long least = job.cost(job.e);
        long laid = 0;
        for (int x = job.e; x > job.h; x--) {
            least = Math.min(least, job.cost(x - 1));
            long price = Math.max(0, job.cost(x - 1) - job.cost(x));
            lay(2 * i, 2 * i + 1, price - laid, x);
            laid = price;
        }
        lay(2 * i, 2 * i + 1, ENDLESS, job.h);
        cost += least;
    }

    private void lay(int from, int to, long room, int length) {
        arcs.add(new long[] {from, to, room, length});
        arcs.add(new long[] {to, from, 0, -length});
    }

    /** False: a circle without an end to its room was found, so no plan is so short. */
    private boolean cancelAll() {
        while (true) {
            List<Integer> circle = risingCircle();
            if (circle == null) {
                return true;
            }
            long room = ENDLESS;
            long length = 0;
            for (int a : circle) {
                room = Math.min(room, arcs.get(a)[2]);
                length += arcs.get(a)[3];
            }
            if (room > ENDLESS / 2) {
                return false;
            }
            for (int a : circle) {
                arcs.get(a)[2] -= room;
                arcs.get(a ^ 1)[2] += room;
            }
            cost += room * length;
        }
    }

    private List<Integer> risingCircle() {
        long[] far = new long[nodes];
        int[] by = new int[nodes];
        java.util.Arrays.fill(by, -1);
        int moved = -1;
        for (int round = 0; round <= nodes; round++) {
            moved = -1;
            for (int a = 0; a < arcs.size(); a++) {
                long[] arc = arcs.get(a);
                int to = (int) arc[1];
                if (arc[2] > 0 && far[(int) arc[0]] + arc[3] > far[to]) {
                    far[to] = far[(int) arc[0]] + arc[3];
                    by[to] = a;
                    moved = to;
                }
            }
            if (moved < 0) {
                return null;
            }
        }
        int node = moved;
        for (int steps = 0; steps < nodes; steps++) {
            node = (int) arcs.get(by[node])[0];
        }
        List<Integer> circle = new ArrayList<>();
        int at = node;
        do {
            circle.add(by[at]);
            at = (int) arcs.get(by[at])[0];
        } while (at != node);
        return circle;
    }

    private long[] risenFrom(int start) {
        long[] far = new long[nodes];
        java.util.Arrays.fill(far, -ENDLESS);
        far[start] = 0;
        for (int round = 0; round < nodes; round++) {
            for (long[] arc : arcs) {
                if (arc[2] > 0 && far[(int) arc[0]] > -ENDLESS) {
                    far[(int) arc[1]] = Math.max(far[(int) arc[1]], far[(int) arc[0]] + arc[3]);
                }
            }
        }
        return far;
    }
}
