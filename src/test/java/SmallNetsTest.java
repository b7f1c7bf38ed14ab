/** All nets of up to five places, without a start and from each place: each call's answers are held against SlowNet's. */
public final class SmallNetsTest {
    /** Put in this order, so that the places' numbers by rising keys are others than those of the masks. */
    private static final int[] KEYS = {3, Integer.MAX_VALUE, -7, Integer.MIN_VALUE, 0};
    private static final int ABSENT = 8;
    private static final String[] CALLS = {
        "places", "streets", "farthest", "mean", "parts", "isTwoColours", "ring", "isTrue", "checksum"
    };
    private static final String[] CALLS_WITH_INDEX = {"keyAt", "layer", "comes", "ringAt"};
    private static final String[] CALLS_WITH_KEY = {"length", "ways", "onAll", "colour"};
    private static final String[] CALLS_WITH_TWO_KEYS = {"isStreet", "through", "isOnAll", "between"};

    private final Twins twins;
    private final int many;
    private final int mask;

    private SmallNetsTest(int many, int mask, int start) {
        this.many = many;
        this.mask = mask;
        twins = new Twins("net " + mask + " of " + many + " places, start " + start);
        for (int at = 0; at < many; at++) {
            twins.sameAnswer("place", KEYS[at], 0, 0);
        }
        forEachStreet("street", 0);
        if (start < many) {
            twins.sameAnswer("begin", KEYS[start], 0, 0);
        }
    }

    public static void main(String[] args) {
        for (int many = 0; many <= KEYS.length; many++) {
            for (int mask = 0; mask < 1 << many * (many - 1) / 2; mask++) {
                for (int start = 0; start <= many; start++) {
                    new SmallNetsTest(many, mask, start).askAll();
                    new SmallNetsTest(many, mask, start).changeAll();
                    new SmallNetsTest(many, mask, start).leaveAll();
                }
            }
        }
        Check.end();
    }

    private int key(int at) {
        return at < many ? KEYS[at] : ABSENT;
    }

    /** Bit by bit of the mask: first all streets to place 1, then those to place 2, and so on. */
    private void forEachStreet(String call, int changes) {
        int bit = 0;
        for (int one = 1; one < many; one++) {
            for (int other = 0; other < one; other++) {
                if ((mask >> bit & 1) != 0) {
                    twins.sameAnswer(call, KEYS[one], KEYS[other], 0);
                    askChange(changes);
                }
                bit++;
            }
        }
    }

    private void askChange(int upTo) {
        for (int index = 0; index < upTo; index++) {
            twins.sameAnswer("changedAt", index, 0, 0);
            twins.sameAnswer("wasAt", index, 0, 0);
        }
    }

    private void askAll() {
        for (String call : CALLS) {
            twins.sameAnswer(call, 0, 0, 0);
        }
        for (int index = -1; index <= many; index++) {
            for (String call : CALLS_WITH_INDEX) {
                twins.sameAnswer(call, index, 0, 0);
            }
        }
        for (int one = 0; one <= many; one++) {
            for (String call : CALLS_WITH_KEY) {
                twins.sameAnswer(call, key(one), 0, 0);
            }
            for (int other = 0; other <= many; other++) {
                for (String call : CALLS_WITH_TWO_KEYS) {
                    twins.sameAnswer(call, key(one), key(other), 0);
                }
            }
            // From one place to another of five there are three shortest ways at the most, and of length 4.
            for (int number = -1; number <= 3; number++) {
                for (int index = -1; index <= 5; index++) {
                    twins.sameAnswer("wayAt", key(one), number, index);
                }
            }
        }
        twins.dueWithinPromise();
    }

    /** Street by street is torn until none is left, and put again: with the change and the lengths each time. */
    private void changeAll() {
        forEachStreet("tear", many);
        twins.sameAnswer("checksum", 0, 0, 0);
        forEachStreet("street", many);
        twins.sameAnswer("checksum", 0, 0, 0);
        twins.dueWithinPromise();
    }

    /** Place by place is taken out, and the first one put again. */
    private void leaveAll() {
        for (int at = 0; at < many; at++) {
            twins.sameAnswer("leave", KEYS[at], 0, 0);
            twins.sameAnswer("checksum", 0, 0, 0);
            twins.sameAnswer("comes", 0, 0, 0);
        }
        twins.sameAnswer("place", KEYS[0], 0, 0);
        twins.sameAnswer("length", KEYS[0], 0, 0);
        twins.dueWithinPromise();
    }
}
