import java.util.NoSuchElementException;

/**
 * Shortest ways through a small net of places and streets: places come in layers, as a queue lets them.
 *
 * <p>Inside, a place is its number by rising keys, so that a loop over numbers goes by rising keys; the
 * rows are made once, with the object, and used again by every call.
 */
public final class Layerways {
    private static final int LIMIT = 12;
    private static final int NONE = -1;

    private final Net net;
    private final Layers fromStart;
    private final Layers aside;
    private final Colours colours;
    private final OddRing oddRing;
    private final Change change;
    private boolean begun;
    private int startKey;

    public Layerways() {
        net = new Net();
        fromStart = new Layers();
        aside = new Layers();
        colours = new Colours();
        oddRing = new OddRing();
        change = new Change();
        begun = false;
        startKey = 0;
    }

    // ---- the net

    public int place(int key) throws IllegalArgumentException, IllegalStateException {
        if (net.find(key) != NONE) {
            throw new IllegalArgumentException("a place has that key");
        }
        if (net.size >= LIMIT) {
            throw new IllegalStateException("the net is full");
        }
        net.insert(key);
        change.clear();
        spreadFromStart();
        return net.size;
    }

    public int leave(int key) throws NoSuchElementException {
        int gone = placeOf(key);
        int went = net.degree(gone);
        net.remove(gone);
        if (begun && startKey == key) {
            begun = false;
        }
        change.clear();
        spreadFromStart();
        return went;
    }

    public int street(int a, int b) throws NoSuchElementException, IllegalArgumentException, IllegalStateException {
        int one = placeOf(a);
        int other = placeOf(b);
        if (one == other) {
            throw new IllegalArgumentException("a street joins two different places");
        }
        if (net.joins(one, other)) {
            throw new IllegalStateException("there is a street between them");
        }
        change.remember(fromStart);
        net.join(one, other);
        spreadFromStart();
        change.compare(net, fromStart);
        return change.size;
    }

    public int tear(int a, int b) throws NoSuchElementException {
        int one = placeOf(a);
        int other = placeOf(b);
        if (!net.joins(one, other)) {
            throw new NoSuchElementException("no street between them");
        }
        change.remember(fromStart);
        net.part(one, other);
        spreadFromStart();
        change.compare(net, fromStart);
        return change.size;
    }

    public int places() {
        return net.size;
    }

    public int streets() {
        int ends = 0;
        for (int at = 0; at < net.size; at++) {
            ends += net.degree(at);
        }
        return ends / 2;
    }

    public boolean isStreet(int a, int b) throws NoSuchElementException {
        int one = placeOf(a);
        int other = placeOf(b);
        return net.joins(one, other);
    }

    public int keyAt(int index) throws IndexOutOfBoundsException {
        if (index < 0 || index >= net.size) {
            throw new IndexOutOfBoundsException("no such key");
        }
        return net.keys[index];
    }

    // ---- ways from the start

    public int begin(int key) throws NoSuchElementException {
        placeOf(key);
        begun = true;
        startKey = key;
        change.clear();
        spreadFromStart();
        return fromStart.come;
    }

    public int length(int key) throws NoSuchElementException, IllegalStateException {
        int at = placeOf(key);
        needStart();
        return fromStart.lengths[at];
    }

    public int farthest() throws IllegalStateException {
        needStart();
        int greatest = 0;
        for (int at = 0; at < net.size; at++) {
            greatest = Math.max(greatest, fromStart.lengths[at]);
        }
        return greatest;
    }

    public int layer(int length) throws IllegalStateException {
        needStart();
        if (length < 0) {
            return 0;
        }
        int many = 0;
        for (int at = 0; at < net.size; at++) {
            if (fromStart.lengths[at] == length) {
                many++;
            }
        }
        return many;
    }

    public int comes(int index) throws IllegalStateException, IndexOutOfBoundsException {
        needStart();
        if (index < 0 || index >= fromStart.come) {
            throw new IndexOutOfBoundsException("not so many come");
        }
        return net.keys[fromStart.queue[index]];
    }

    public int ways(int key) throws NoSuchElementException, IllegalStateException {
        int at = placeOf(key);
        needStart();
        return fromStart.counts[at];
    }

    public int wayAt(int key, int number, int index)
            throws NoSuchElementException, IllegalStateException, IndexOutOfBoundsException {
        int last = placeOf(key);
        needStart();
        if (number < 0 || number >= fromStart.counts[last]) {
            throw new IndexOutOfBoundsException("no such shortest way");
        }
        if (index < 0 || index > fromStart.lengths[last]) {
            throw new IndexOutOfBoundsException("the way has no such place");
        }
        aside.spread(net, last);
        return net.keys[goAlong(number, index)];
    }

    public int through(int key, int via) throws NoSuchElementException, IllegalStateException {
        int last = placeOf(key);
        int between = placeOf(via);
        needStart();
        aside.spread(net, last);
        return countThrough(last, between);
    }

    public boolean isOnAll(int key, int via)
            throws NoSuchElementException, IllegalStateException, UnsupportedOperationException {
        int last = placeOf(key);
        int between = placeOf(via);
        needStart();
        needWay(last);
        aside.spread(net, last);
        return countThrough(last, between) == fromStart.counts[last];
    }

    public int onAll(int key) throws NoSuchElementException, IllegalStateException, UnsupportedOperationException {
        int last = placeOf(key);
        needStart();
        needWay(last);
        aside.spread(net, last);
        int many = 0;
        for (int at = 0; at < net.size; at++) {
            if (countThrough(last, at) == fromStart.counts[last]) {
                many++;
            }
        }
        return many;
    }

    public double mean() throws IllegalStateException {
        needStart();
        int sum = 0;
        int many = 0;
        for (int at = 0; at < net.size; at++) {
            if (fromStart.lengths[at] != NONE) {
                sum += fromStart.lengths[at];
                many++;
            }
        }
        // The start has a length itself, so that there is always one to divide by.
        return many == 0 ? 0.0 : (double) sum / (double) many;
    }

    // ---- the whole net

    public int between(int a, int b) throws NoSuchElementException {
        int one = placeOf(a);
        int other = placeOf(b);
        aside.spread(net, one);
        return aside.lengths[other];
    }

    public int parts() {
        colours.paint(net, aside);
        return colours.parts;
    }

    public boolean isTwoColours() {
        colours.paint(net, aside);
        return colours.two;
    }

    public int colour(int key) throws NoSuchElementException, UnsupportedOperationException {
        int at = placeOf(key);
        colours.paint(net, aside);
        if (!colours.two) {
            throw new UnsupportedOperationException("the net does not have two colours");
        }
        return colours.tints[at];
    }

    public int ring() throws UnsupportedOperationException {
        findOddRing();
        return oddRing.size;
    }

    public int ringAt(int index) throws UnsupportedOperationException, IndexOutOfBoundsException {
        findOddRing();
        if (index < 0 || index >= oddRing.size) {
            throw new IndexOutOfBoundsException("the ring has no such place");
        }
        return net.keys[oddRing.row[index]];
    }

    // ---- the change, all

    public int changedAt(int index) throws IndexOutOfBoundsException {
        if (index < 0 || index >= change.size) {
            throw new IndexOutOfBoundsException("the change has no such place");
        }
        return change.keys[index];
    }

    public int wasAt(int index) throws IndexOutOfBoundsException {
        if (index < 0 || index >= change.size) {
            throw new IndexOutOfBoundsException("the change has no such place");
        }
        return change.were[index];
    }

    public boolean isTrue() {
        if (begun && !(streetsKeepLayers() && waysAddUp() && lengthsRise())) {
            return false;
        }
        colours.paint(net, aside);
        if (colours.two) {
            return colours.areUnlike(net);
        }
        oddRing.find(net);
        return oddRing.isOdd() && oddRing.isUnlike();
    }

    public long checksum() {
        long sum = 7;
        for (int at = 0; at < net.size; at++) {
            sum = 31 * sum + net.keys[at];
            sum = 31 * sum + net.degree(at);
            sum = 31 * sum + fromStart.lengths[at];
            sum = 31 * sum + fromStart.counts[at];
        }
        colours.paint(net, aside);
        sum = 31 * sum + colours.parts;
        sum = 31 * sum + (colours.two ? 1 : 0);
        sum = 31 * sum + change.size;
        for (int at = 0; at < change.size; at++) {
            sum = 31 * sum + change.keys[at];
            sum = 31 * sum + change.were[at];
        }
        return sum;
    }

    // ---- inside

    private int placeOf(int key) throws NoSuchElementException {
        int at = net.find(key);
        if (at == NONE) {
            throw new NoSuchElementException("no such place");
        }
        return at;
    }

    private void needStart() throws IllegalStateException {
        if (!begun) {
            throw new IllegalStateException("there is no start");
        }
    }

    private void needWay(int last) throws UnsupportedOperationException {
        if (fromStart.lengths[last] == NONE) {
            throw new UnsupportedOperationException("no way leads there");
        }
    }

    private void spreadFromStart() {
        fromStart.spread(net, begun ? net.find(startKey) : NONE);
    }

    private void findOddRing() throws UnsupportedOperationException {
        colours.paint(net, aside);
        if (colours.two) {
            throw new UnsupportedOperationException("the net has two colours");
        }
        oddRing.find(net);
    }

    /** Needs the layers from last in aside: as streets have no direction, they tell of the ways to it, too. */
    private int countThrough(int last, int via) {
        int before = fromStart.lengths[via];
        int after = aside.lengths[via];
        if (before == NONE || after == NONE || before + after != fromStart.lengths[last]) {
            return 0;
        }
        return fromStart.counts[via] * aside.counts[via];
    }

    /** Needs the layers from the way's last place in aside: their counts tell how many ways go on from a place. */
    private int goAlong(int number, int steps) {
        int here = fromStart.queue[0];
        int left = number;
        for (int step = 0; step < steps; step++) {
            int next = 0;
            while (next < net.size - 1 && !(leadsOn(here, next) && left < aside.counts[next])) {
                if (leadsOn(here, next)) {
                    left -= aside.counts[next];
                }
                next++;
            }
            here = next;
        }
        return here;
    }

    private boolean leadsOn(int here, int next) {
        return net.joins(here, next) && aside.lengths[next] == aside.lengths[here] - 1;
    }

    private boolean streetsKeepLayers() {
        for (int one = 0; one < net.size; one++) {
            for (int other = 0; other < one; other++) {
                if (net.joins(one, other) && !isSameOrNextLayer(one, other)) {
                    return false;
                }
            }
        }
        return true;
    }

    private boolean isSameOrNextLayer(int one, int other) {
        int here = fromStart.lengths[one];
        int there = fromStart.lengths[other];
        if (here == NONE || there == NONE) {
            return here == there;
        }
        return Math.abs(here - there) <= 1;
    }

    private boolean waysAddUp() {
        for (int at = 0; at < net.size; at++) {
            if (fromStart.lengths[at] > 0 && !isFedByLayerBefore(at)) {
                return false;
            }
        }
        return true;
    }

    private boolean isFedByLayerBefore(int at) {
        int feeders = 0;
        int sum = 0;
        for (int next = 0; next < net.size; next++) {
            if (net.joins(at, next) && fromStart.lengths[next] == fromStart.lengths[at] - 1) {
                feeders++;
                sum += fromStart.counts[next];
            }
        }
        return feeders > 0 && sum == fromStart.counts[at];
    }

    private boolean lengthsRise() {
        for (int turn = 1; turn < fromStart.come; turn++) {
            int before = fromStart.queue[turn - 1];
            int after = fromStart.queue[turn];
            if (fromStart.lengths[before] > fromStart.lengths[after]) {
                return false;
            }
        }
        return true;
    }

    private static boolean hasBit(int bits, int at) {
        return ((bits >>> at) & 1) != 0;
    }

    /** The places by rising keys, and for each one a set of bits: bit n stands for a street to place n. */
    private static final class Net {
        final int[] keys = new int[LIMIT];
        final int[] near = new int[LIMIT];
        int size = 0;

        int find(int key) {
            for (int at = 0; at < size; at++) {
                if (keys[at] == key) {
                    return at;
                }
            }
            return NONE;
        }

        void insert(int key) {
            if (size >= LIMIT) {
                return;
            }
            int at = size;
            while (at > 0 && keys[at - 1] > key) {
                keys[at] = keys[at - 1];
                near[at] = near[at - 1];
                at--;
            }
            keys[at] = key;
            near[at] = 0;
            size++;
            for (int other = 0; other < size; other++) {
                near[other] = withRoomAt(near[other], at);
            }
        }

        void remove(int gone) {
            for (int at = gone; at < size - 1; at++) {
                keys[at] = keys[at + 1];
                near[at] = near[at + 1];
            }
            size--;
            for (int other = 0; other < size; other++) {
                near[other] = without(near[other], gone);
            }
        }

        void join(int one, int other) {
            near[one] |= 1 << other;
            near[other] |= 1 << one;
        }

        void part(int one, int other) {
            near[one] &= ~(1 << other);
            near[other] &= ~(1 << one);
        }

        boolean joins(int one, int other) {
            return hasBit(near[one], other);
        }

        int degree(int at) {
            return Integer.bitCount(near[at]);
        }

        private static int withRoomAt(int bits, int at) {
            int below = (1 << at) - 1;
            return (bits & below) | ((bits & ~below) << 1);
        }

        private static int without(int bits, int gone) {
            int below = (1 << gone) - 1;
            return (bits & below) | ((bits >>> 1) & ~below);
        }
    }

    /** What the queue tells of all places, from one of them: lengths, shortest ways, and the order of coming. */
    private static final class Layers {
        final int[] lengths = new int[LIMIT];
        final int[] counts = new int[LIMIT];
        final int[] queue = new int[LIMIT];
        int come = 0;

        /** From no place, if the net has no place of that number. */
        void spread(Net net, int from) {
            come = 0;
            for (int at = 0; at < LIMIT; at++) {
                lengths[at] = NONE;
                counts[at] = 0;
            }
            if (from < 0 || from >= net.size) {
                return;
            }
            lengths[from] = 0;
            counts[from] = 1;
            queue[0] = from;
            come = 1;
            for (int turn = 0; turn < come && turn < LIMIT; turn++) {
                visitNeighbours(net, queue[turn]);
            }
        }

        private void visitNeighbours(Net net, int here) {
            for (int next = 0; next < net.size; next++) {
                if (!net.joins(here, next)) {
                    continue;
                }
                if (lengths[next] == NONE && come < LIMIT) {
                    lengths[next] = lengths[here] + 1;
                    queue[come] = next;
                    come++;
                }
                if (lengths[next] == lengths[here] + 1) {
                    counts[next] += counts[here];
                }
            }
        }
    }

    /** The parts, and the only colours that the net can have, be they good or not. */
    private static final class Colours {
        final int[] tints = new int[LIMIT];
        int parts = 0;
        boolean two = true;

        void paint(Net net, Layers layers) {
            parts = 0;
            for (int at = 0; at < LIMIT; at++) {
                tints[at] = NONE;
            }
            for (int least = 0; least < net.size; least++) {
                if (tints[least] == NONE) {
                    parts++;
                    layers.spread(net, least);
                    paintPart(net, layers);
                }
            }
            two = areUnlike(net);
        }

        private void paintPart(Net net, Layers layers) {
            for (int at = 0; at < net.size; at++) {
                if (layers.lengths[at] != NONE) {
                    tints[at] = layers.lengths[at] & 1;
                }
            }
        }

        boolean areUnlike(Net net) {
            for (int one = 0; one < net.size; one++) {
                for (int other = 0; other < one; other++) {
                    if (net.joins(one, other) && tints[one] == tints[other]) {
                        return false;
                    }
                }
            }
            return true;
        }
    }

    /**
     * The odd ring. A row of the least odd number of steps that comes back to its first place never meets a
     * place twice, else it would fall into two rows of which one is odd and shorter: so any such row is a
     * ring, and the first one in the order of keys can be found step by step.
     */
    private static final class OddRing {
        final int[] row = new int[LIMIT];
        /** At n, the places from which n steps can lead to the row's first place, as bits. */
        final int[] reach = new int[LIMIT + 1];
        int size = 0;

        /** Leaves the ring empty if the net has no odd one. */
        void find(Net net) {
            size = 0;
            for (int steps = 3; steps <= net.size; steps += 2) {
                for (int first = 0; first < net.size; first++) {
                    reachBack(net, first, steps);
                    if (hasBit(reach[steps], first)) {
                        follow(net, first, steps);
                        return;
                    }
                }
            }
        }

        private void reachBack(Net net, int first, int steps) {
            reach[0] = 1 << first;
            for (int step = 1; step <= steps && step <= LIMIT; step++) {
                reach[step] = neighbours(net, reach[step - 1]);
            }
        }

        private static int neighbours(Net net, int bits) {
            int all = 0;
            for (int at = 0; at < net.size; at++) {
                if (hasBit(bits, at)) {
                    all |= net.near[at];
                }
            }
            return all;
        }

        private void follow(Net net, int first, int steps) {
            int here = first;
            for (int step = 0; step < steps && step < LIMIT; step++) {
                row[step] = here;
                here = least(net, net.near[here] & reach[steps - step - 1]);
            }
            size = steps;
        }

        private static int least(Net net, int bits) {
            int at = 0;
            while (at < net.size - 1 && !hasBit(bits, at)) {
                at++;
            }
            return at;
        }

        boolean isOdd() {
            return size >= 3 && (size & 1) == 1;
        }

        boolean isUnlike() {
            for (int one = 0; one < size; one++) {
                for (int other = 0; other < one; other++) {
                    if (row[one] == row[other]) {
                        return false;
                    }
                }
            }
            return true;
        }
    }

    /** The places that got another length by the last street that came or went, with the lengths before. */
    private static final class Change {
        final int[] before = new int[LIMIT];
        final int[] keys = new int[LIMIT];
        final int[] were = new int[LIMIT];
        int size = 0;

        void clear() {
            size = 0;
        }

        void remember(Layers layers) {
            for (int at = 0; at < LIMIT; at++) {
                before[at] = layers.lengths[at];
            }
        }

        void compare(Net net, Layers layers) {
            size = 0;
            for (int at = 0; at < net.size; at++) {
                if (before[at] != layers.lengths[at]) {
                    keys[size] = net.keys[at];
                    were[size] = before[at];
                    size++;
                }
            }
        }
    }
}
