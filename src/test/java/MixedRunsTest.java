/** All promises: runs of 512 mixed calls, each answer beside that of SlowBook; the same runs each time. */
public final class MixedRunsTest {
    private static final Checks CHECKS = new Checks();
    private static final int RUNS = 3000;
    private static final int CALLS = 512;
    private static final int[] EDGES = {
        Integer.MIN_VALUE, Integer.MIN_VALUE + 1, -1073741824, -1073741823, -802, -3, -2, -1, 0, 1, 2, 3, 39, 40, 41,
        399, 400, 401, 402, 799, 800, 801, 802, 803, 65538, 1073741824, 1073741825, Integer.MAX_VALUE - 1,
        Integer.MAX_VALUE};

    private long state;
    private final int objects;
    private final MethodBook book = new MethodBook();
    private final SlowBook slow = new SlowBook();

    private MixedRunsTest(int run) {
        state = run * 7919L + 1;
        // A few objects meet one another often; many make long ways.
        objects = run % 3 == 0 ? 120 : 3 + run % 12;
    }

    public static void main(String[] args) {
        CHECKS.sentence("Promises 1 to 13");
        for (int run = 0; run < RUNS; run++) {
            MixedRunsTest mixed = new MixedRunsTest(run);
            int call = run % 3 == 0 ? mixed.chain("run " + run) : 0;
            for (; call + 3 <= CALLS; call += 3) {
                mixed.oneCall("run " + run + ", call " + call + ": ");
            }
        }
        CHECKS.end();
    }

    private int below(int bound) {
        state = state * 6364136223846793005L + 1442695040888963407L;
        return (int) Math.floorMod(state >>> 33, (long) bound);
    }

    private int edge() {
        return EDGES[below(EDGES.length)];
    }

    private int object() {
        return below(40) == 0 ? edge() : 1 + below(objects);
    }

    private int value() {
        int kind = below(20);
        if (kind == 0) {
            return edge();
        }
        return kind < 3 ? 0 : kind < 9 ? 2 * below(4) + 1 : 2 * (1 + below(objects));
    }

    private int place() {
        int kind = below(20);
        return kind == 0 ? edge() : kind < 8 ? 0 : kind < 14 ? 1 : below(8);
    }

    private int count() {
        int kind = below(20);
        return kind == 0 ? edge() : kind < 3 ? below(2) : kind < 14 ? 2 : below(8);
    }

    /** Makes most of the objects a way upward; answers how many calls that took. */
    private int chain(String run) {
        int length = 95 + below(12);
        for (int k = 1; k <= length; k++) {
            dueSame(run + ": make " + k, book.make(k, 2, true), slow.make(k, 2, true));
            dueSame(run + ": put " + k, book.put(k - 1, 0, 2 * k), slow.put(k - 1, 0, 2 * k));
        }
        return 2 * length;
    }

    private void dueSame(String call, boolean got, boolean want) {
        CHECKS.due(call, got, want);
    }

    private void oneCall(String call) {
        int k = object();
        int a = value();
        int b = value();
        switch (below(18)) {
            case 0, 1 -> make(call, k, count(), below(8) != 0);
            case 2, 3, 4, 5, 6, 7 -> put(call, k, place(), a);
            case 8, 9 -> lookUp(call, a, b);
            case 10 -> CHECKS.due(call + "above " + a, book.above(a), slow.above(a));
            case 11 -> CHECKS.due(call + "inherits " + a + ", " + b, book.inherits(a, b), slow.inherits(a, b));
            case 12 -> become(call, k, object());
            case 13 -> CHECKS.due(call + "users " + k, book.users(k), slow.users(k));
            case 14 -> CHECKS.due(call + "senders " + a, book.senders(a), slow.senders(a));
            case 15 -> CHECKS.due(call + "size " + k, book.size(k), slow.size(k));
            case 16 -> get(call, k, place());
            default -> lookUp(call, 2 * k, b);
        }
        CHECKS.due(call + "then method", book.method(), slow.method());
        CHECKS.due(call + "then where", book.where(), slow.where());
    }

    private void make(String call, int k, int n, boolean fields) {
        CHECKS.due(call + "make " + k + ", " + n + ", " + fields, book.make(k, n, fields), slow.make(k, n, fields));
    }

    private void put(String call, int k, int i, int v) {
        CHECKS.due(call + "put " + k + ", " + i + ", " + v, book.put(k, i, v), slow.put(k, i, v));
    }

    private void get(String call, int k, int i) {
        CHECKS.due(call + "get " + k + ", " + i, book.get(k, i), slow.get(k, i));
    }

    private void lookUp(String call, int from, int selector) {
        CHECKS.due(call + "lookUp " + from + ", " + selector, book.lookUp(from, selector), slow.lookUp(from, selector));
    }

    private void become(String call, int a, int b) {
        CHECKS.due(call + "become " + a + ", " + b, book.become(a, b), slow.become(a, b));
    }
}
