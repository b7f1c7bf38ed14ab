import java.util.ArrayDeque;
import java.util.ArrayList;
import java.util.HashSet;
import java.util.List;
import java.util.NoSuchElementException;
import java.util.Set;
import java.util.TreeMap;
import java.util.TreeSet;

/**
 * The document's words again, by other means than the class: all ways and rings are written out, the
 * lengths come from a table of all pairs, the colours from trying. Slow, and for the tests alone.
 */
final class SlowNet {
    private static final int FAR = 1000;

    private final TreeMap<Integer, TreeSet<Integer>> near = new TreeMap<>();
    private Integer start = null;
    private List<int[]> change = new ArrayList<>();

    private TreeMap<Integer, TreeMap<Integer, Integer>> table = new TreeMap<>();
    private final TreeMap<Integer, List<List<Integer>>> waysTo = new TreeMap<>();
    private List<Integer> queue = new ArrayList<>();
    private TreeMap<Integer, Integer> tints = new TreeMap<>();
    private List<Integer> oddRing = new ArrayList<>();

    // ---- the net

    int place(int key) {
        if (near.containsKey(key)) {
            throw new IllegalArgumentException();
        }
        if (near.size() == 12) {
            throw new IllegalStateException();
        }
        near.put(key, new TreeSet<>());
        change = new ArrayList<>();
        renew();
        return near.size();
    }

    int leave(int key) {
        need(key);
        int went = near.remove(key).size();
        for (TreeSet<Integer> others : near.values()) {
            others.remove(key);
        }
        if (start != null && start == key) {
            start = null;
        }
        change = new ArrayList<>();
        renew();
        return went;
    }

    int street(int a, int b) {
        need(a);
        need(b);
        if (a == b) {
            throw new IllegalArgumentException();
        }
        if (near.get(a).contains(b)) {
            throw new IllegalStateException();
        }
        TreeMap<Integer, Integer> before = lengths();
        near.get(a).add(b);
        near.get(b).add(a);
        renew();
        return changeFrom(before);
    }

    int tear(int a, int b) {
        need(a);
        need(b);
        if (!near.get(a).contains(b)) {
            throw new NoSuchElementException();
        }
        TreeMap<Integer, Integer> before = lengths();
        near.get(a).remove(b);
        near.get(b).remove(a);
        renew();
        return changeFrom(before);
    }

    int places() {
        return near.size();
    }

    int streets() {
        int many = 0;
        for (int a : near.keySet()) {
            many += near.get(a).tailSet(a).size();
        }
        return many;
    }

    boolean isStreet(int a, int b) {
        need(a);
        need(b);
        return near.get(a).contains(b);
    }

    int keyAt(int index) {
        return at(new ArrayList<>(near.keySet()), index);
    }

    // ---- ways from the start

    int begin(int key) {
        need(key);
        start = key;
        change = new ArrayList<>();
        renew();
        return queue.size();
    }

    int length(int key) {
        need(key);
        needStart();
        return told(start, key);
    }

    int farthest() {
        needStart();
        int greatest = -1;
        for (int length : lengths().values()) {
            greatest = Math.max(greatest, length);
        }
        return greatest;
    }

    int layer(int length) {
        needStart();
        int many = 0;
        for (int one : lengths().values()) {
            many += one == length && length >= 0 ? 1 : 0;
        }
        return many;
    }

    int comes(int index) {
        needStart();
        return at(queue, index);
    }

    int ways(int key) {
        need(key);
        needStart();
        return allWays(key).size();
    }

    int wayAt(int key, int number, int index) {
        need(key);
        needStart();
        if (number < 0 || number >= allWays(key).size()) {
            throw new IndexOutOfBoundsException();
        }
        return at(allWays(key).get(number), index);
    }

    int through(int key, int via) {
        need(key);
        need(via);
        needStart();
        int many = 0;
        for (List<Integer> way : allWays(key)) {
            many += way.contains(via) ? 1 : 0;
        }
        return many;
    }

    boolean isOnAll(int key, int via) {
        need(key);
        need(via);
        needStart();
        if (allWays(key).isEmpty()) {
            throw new UnsupportedOperationException();
        }
        for (List<Integer> way : allWays(key)) {
            if (!way.contains(via)) {
                return false;
            }
        }
        return true;
    }

    int onAll(int key) {
        need(key);
        needStart();
        if (allWays(key).isEmpty()) {
            throw new UnsupportedOperationException();
        }
        Set<Integer> common = new HashSet<>(near.keySet());
        for (List<Integer> way : allWays(key)) {
            common.retainAll(way);
        }
        return common.size();
    }

    double mean() {
        needStart();
        int sum = 0;
        for (int key : queue) {
            sum += told(start, key);
        }
        return (double) sum / (double) queue.size();
    }

    // ---- the whole net

    int between(int a, int b) {
        need(a);
        need(b);
        return told(a, b);
    }

    int parts() {
        Set<Set<Integer>> all = new HashSet<>();
        for (int a : near.keySet()) {
            Set<Integer> part = new HashSet<>();
            for (int b : near.keySet()) {
                if (told(a, b) >= 0) {
                    part.add(b);
                }
            }
            all.add(part);
        }
        return all.size();
    }

    boolean isTwoColours() {
        return tints != null;
    }

    int colour(int key) {
        need(key);
        if (tints == null) {
            throw new UnsupportedOperationException();
        }
        return tints.get(key);
    }

    int ring() {
        if (tints != null) {
            throw new UnsupportedOperationException();
        }
        return oddRing.size();
    }

    int ringAt(int index) {
        if (tints != null) {
            throw new UnsupportedOperationException();
        }
        return at(oddRing, index);
    }

    // ---- the change, all

    int changedAt(int index) {
        return at(change, index)[0];
    }

    int wasAt(int index) {
        return at(change, index)[1];
    }

    boolean isTrue() {
        return true;
    }

    long checksum() {
        long sum = 7;
        for (int key : near.keySet()) {
            sum = 31 * sum + key;
            sum = 31 * sum + near.get(key).size();
            sum = 31 * sum + (start == null ? -1 : told(start, key));
            sum = 31 * sum + (start == null ? 0 : allWays(key).size());
        }
        sum = 31 * sum + parts();
        sum = 31 * sum + (isTwoColours() ? 1 : 0);
        sum = 31 * sum + change.size();
        for (int[] one : change) {
            sum = 31 * sum + one[0];
            sum = 31 * sum + one[1];
        }
        return sum;
    }

    // ---- inside

    private void need(int key) {
        if (!near.containsKey(key)) {
            throw new NoSuchElementException();
        }
    }

    private void needStart() {
        if (start == null) {
            throw new IllegalStateException();
        }
    }

    private static <T> T at(List<T> row, int index) {
        if (index < 0 || index >= row.size()) {
            throw new IndexOutOfBoundsException();
        }
        return row.get(index);
    }

    private int told(int a, int b) {
        int length = table.get(a).get(b);
        return length >= FAR ? -1 : length;
    }

    private TreeMap<Integer, Integer> lengths() {
        TreeMap<Integer, Integer> all = new TreeMap<>();
        for (int key : near.keySet()) {
            all.put(key, start == null ? -1 : told(start, key));
        }
        return all;
    }

    private int changeFrom(TreeMap<Integer, Integer> before) {
        change = new ArrayList<>();
        TreeMap<Integer, Integer> after = lengths();
        for (int key : near.keySet()) {
            if (!before.get(key).equals(after.get(key))) {
                change.add(new int[] {key, before.get(key)});
            }
        }
        return change.size();
    }

    private void renew() {
        waysTo.clear();
        renewTable();
        renewQueue();
        tints = new TreeMap<>();
        if (!tryColours(new ArrayList<>(near.keySet()), 0)) {
            tints = null;
        }
        oddRing = new ArrayList<>();
        for (int size = 3; size <= near.size() && oddRing.isEmpty() && tints == null; size += 2) {
            findRing(new ArrayList<>(), size);
        }
    }

    private void renewTable() {
        table = new TreeMap<>();
        for (int a : near.keySet()) {
            table.put(a, new TreeMap<>());
            for (int b : near.keySet()) {
                table.get(a).put(b, a == b ? 0 : near.get(a).contains(b) ? 1 : FAR);
            }
        }
        for (int via : near.keySet()) {
            for (int a : near.keySet()) {
                for (int b : near.keySet()) {
                    int round = table.get(a).get(via) + table.get(via).get(b);
                    if (round < table.get(a).get(b)) {
                        table.get(a).put(b, round);
                    }
                }
            }
        }
    }

    private void renewQueue() {
        queue = new ArrayList<>();
        if (start == null) {
            return;
        }
        ArrayDeque<Integer> waiting = new ArrayDeque<>();
        Set<Integer> stood = new HashSet<>();
        waiting.add(start);
        stood.add(start);
        while (!waiting.isEmpty()) {
            int first = waiting.remove();
            queue.add(first);
            for (int next : near.get(first)) {
                if (stood.add(next)) {
                    waiting.add(next);
                }
            }
        }
    }

    /** The first good colouring in the order of keys gives 0 to the least key of each part. */
    private boolean tryColours(List<Integer> keys, int done) {
        if (done == keys.size()) {
            return true;
        }
        int key = keys.get(done);
        for (int tint = 0; tint <= 1; tint++) {
            boolean good = true;
            for (int next : near.get(key)) {
                good &= !tints.containsKey(next) || tints.get(next) != tint;
            }
            if (good) {
                tints.put(key, tint);
                if (tryColours(keys, done + 1)) {
                    return true;
                }
                tints.remove(key);
            }
        }
        return false;
    }

    private boolean findRing(List<Integer> row, int size) {
        if (row.size() == size) {
            if (near.get(row.get(size - 1)).contains(row.get(0))) {
                oddRing = new ArrayList<>(row);
                return true;
            }
            return false;
        }
        Set<Integer> nexts = row.isEmpty() ? near.keySet() : near.get(row.get(row.size() - 1));
        for (int next : nexts) {
            if (!row.contains(next)) {
                row.add(next);
                if (findRing(row, size)) {
                    return true;
                }
                row.remove(row.size() - 1);
            }
        }
        return false;
    }

    private List<List<Integer>> allWays(int key) {
        if (!waysTo.containsKey(key)) {
            List<List<Integer>> found = new ArrayList<>();
            if (told(start, key) >= 0) {
                List<Integer> row = new ArrayList<>();
                row.add(start);
                writeWays(row, key, told(start, key), found);
            }
            waysTo.put(key, found);
        }
        return waysTo.get(key);
    }

    private void writeWays(List<Integer> row, int key, int steps, List<List<Integer>> found) {
        int here = row.get(row.size() - 1);
        if (steps == 0) {
            if (here == key) {
                found.add(new ArrayList<>(row));
            }
            return;
        }
        if (table.get(here).get(key) > steps) {
            return;
        }
        for (int next : near.get(here)) {
            row.add(next);
            writeWays(row, key, steps - 1, found);
            row.remove(row.size() - 1);
        }
    }
}
