/** A task as the document tells it, for the tests' own reckoning. */
final class Job {
    final int kind;
    final int e;
    final int h;
    final int p;
    final int extra;
    final int m;
    int told;
    int before = 0;

    Job(int kind, long[] numbers) {
        this.kind = kind;
        e = (int) numbers[0];
        h = numbers.length > 1 ? (int) numbers[1] : e;
        p = numbers.length > 1 ? (int) numbers[2] : 0;
        extra = numbers.length > 3 ? (int) numbers[3] : 0;
        m = numbers.length > 4 ? (int) numbers[4] : 0;
        told = e;
    }

    Job(Job other) {
        kind = other.kind;
        e = other.e;
        h = other.h;
        p = other.p;
        extra = other.extra;
        m = other.m;
        told = other.told;
        before = other.before;
    }

    boolean follows(int other) {
        return (before >> other & 1) != 0;
    }

    long cost(int x) {
        long sum = (long) p * (e - x);
        if (kind == 2 && e - extra - x > 0) {
            sum += (long) m * (e - extra - x);
        }
        if (kind == 4) {
            sum += (long) extra * x;
        }
        return sum;
    }
}
