/**
 * Long runs of calls on new objects, each answer held against SlowNet's. The numbers come from a
 * fixed row, so that each run of the test is the same one.
 */
public final class RunsTest {
    private static final int RUNS = 600;
    private static final int CALLS = 512;
    private static final int[] ODD_KEYS = {
        Integer.MIN_VALUE, Integer.MAX_VALUE, 0, -1, 1, 500, -500, 77, 78, 79, Integer.MIN_VALUE + 1, 31, -31, 9
    };

    private long state;
    private int[] pool;
    private int keep;
    private Twins twins;
    private SlowNet y;

    public static void main(String[] args) {
        for (int run = 0; run < RUNS; run++) {
            new RunsTest().go(run);
            new RunsTest().goShaped(run);
        }
        Check.end();
    }

    private int any(int below) {
        state = state * 6364136223846793005L + 1442695040888963407L;
        return (int) ((state >>> 33) % below);
    }

    private void prepare(int number, int seed) {
        state = 1234567L * number + seed;
        twins = new Twins("run " + number);
        y = twins.slow();
        pool = new int[13];
        int shift = any(5) - 2;
        for (int at = 0; at < pool.length; at++) {
            pool[at] = number % 3 == 0 ? ODD_KEYS[(at + number) % ODD_KEYS.length] : at + shift;
        }
        for (int at = pool.length - 1; at > 0; at--) {
            int other = any(at + 1);
            int kept = pool[at];
            pool[at] = pool[other];
            pool[other] = kept;
        }
    }

    /** Greater nets: layers side by side, or a long circle, or any; then few streets come and go. */
    private void goShaped(int number) {
        prepare(number, 4321);
        int many = 8 + any(5);
        for (int at = 0; at < many; at++) {
            same("place", pool[at], 0, 0);
        }
        int shape = any(4);
        int wide = 2 + any(3);
        int tenths = 1 + any(10);
        for (int one = 0; one < many; one++) {
            for (int other = 0; other < one; other++) {
                if (isInShape(shape, wide, one, other, many) && (shape == 1 || any(10) < tenths)) {
                    same("street", pool[one], pool[other], 0);
                }
            }
        }
        same("begin", pool[any(many)], 0, 0);
        for (int at = many + 70; at < CALLS; at++) {
            int kind = any(60);
            if (kind < 4) {
                ask(3 + kind);
            } else {
                ask(kind == 4 ? 1 : 7 + any(26));
            }
        }
    }

    private static boolean isInShape(int shape, int wide, int one, int other, int many) {
        switch (shape) {
            case 0: return one / wide == other / wide + 1;
            case 1: return one == other + 1 || one == many - 1 && other == 0;
            case 2: return (one & 1) != (other & 1);
            default: return true;
        }
    }

    private void go(int number) {
        prepare(number, 99);
        // From trees to nets with nearly all streets; some runs keep colours by joining odd to even.
        keep = any(5);
        int filled = any(13);
        for (int at = 0; at < filled; at++) {
            ask(0);
        }
        if (any(4) != 0) {
            ask(6);
        }
        for (int at = filled + 1; at < CALLS; at++) {
            ask(any(4) == 0 ? any(7) : 7 + any(26));
        }
    }

    private int key() {
        return pool[any(pool.length)];
    }

    private int keyThere() {
        int many = y.places();
        return many == 0 || any(30) == 0 ? key() : y.keyAt(any(many));
    }

    private int index() {
        return any(25) == 0 ? (any(2) == 0 ? Integer.MAX_VALUE : Integer.MIN_VALUE) : any(14) - 1;
    }

    private void ask(int which) {
        int a = keyThere();
        int b = keyThere();
        int i = index();
        int n = any(6) == 0 ? index() : any(4);
        switch (which) {
            case 0: same("place", key(), 0, 0); break;
            case 1: same(any(keep + 1) == 0 ? "leave" : "place", a, 0, 0); break;
            case 2: case 3: same(any(6) < keep ? "street" : "tear", a, b, 0); break;
            case 4: same("street", a, b, 0); break;
            case 5: tearOne(a); break;
            case 6: same("begin", a, 0, 0); break;
            case 7: same("places", 0, 0, 0); break;
            case 8: same("streets", 0, 0, 0); break;
            case 9: same("isStreet", a, b, 0); break;
            case 10: same("keyAt", i, 0, 0); break;
            case 11: same("length", a, 0, 0); break;
            case 12: same("farthest", 0, 0, 0); break;
            case 13: same("layer", i, 0, 0); break;
            case 14: same("comes", i, 0, 0); break;
            case 15: same("ways", a, 0, 0); break;
            case 16: case 17: same("wayAt", a, n, i); break;
            case 18: same("through", a, b, 0); break;
            case 19: same("isOnAll", a, b, 0); break;
            case 20: same("onAll", a, 0, 0); break;
            case 21: same("mean", 0, 0, 0); break;
            case 22: same("between", a, b, 0); break;
            case 23: same("parts", 0, 0, 0); break;
            case 24: same("isTwoColours", 0, 0, 0); break;
            case 25: same("colour", a, 0, 0); break;
            case 26: same("ring", 0, 0, 0); break;
            case 27: case 28: same("ringAt", i, 0, 0); break;
            case 29: same("changedAt", n, 0, 0); break;
            case 30: same("wasAt", n, 0, 0); break;
            case 31: same("isTrue", 0, 0, 0); break;
            default: same("checksum", 0, 0, 0); break;
        }
    }

    /** Mostly a street that is there. */
    private void tearOne(int a) {
        for (int at = 0; at < y.places(); at++) {
            int b = y.keyAt(at);
            if (Check.outcome(() -> y.isStreet(a, b)).equals("true") && any(2) == 0) {
                same("tear", a, b, 0);
                return;
            }
        }
        same("tear", a, keyThere(), 0);
    }

    private void same(String call, int a, int b, int c) {
        twins.same(call, a, b, c);
    }
}
