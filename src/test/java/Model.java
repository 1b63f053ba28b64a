import java.math.BigInteger;
import java.util.ArrayList;
import java.util.List;
import java.util.TreeMap;

/** The document's words, taken one by one and as slow as they come: what ModelTest compares with. */
final class Model {
    private record Step(boolean isPut, int key, long value) {
    }

    private record Entry(TreeMap<Integer, Long> before, int call, boolean isLastOfCall) {
    }

    private record Bucket(int depth, int place) {
    }

    private final int room;
    private TreeMap<Integer, Long> kept = new TreeMap<>();
    private List<Entry> unflushed = new ArrayList<>();
    private List<Step> steps;
    private int calls;

    Model(int pages) {
        room = pages < 8 ? 8 : pages > 200 ? 200 : pages;
    }

    int put(int key, long value) {
        if (steps != null) {
            return addStep(new Step(true, key, value));
        }
        boolean wasKept = kept.containsKey(key);
        TreeMap<Integer, Long> after = new TreeMap<>(kept);
        after.put(key, value);
        return change(after, 1) ? wasKept ? 2 : 1 : 0;
    }

    int delete(int key) {
        if (steps != null) {
            return addStep(new Step(false, key, 0L));
        }
        if (!kept.containsKey(key)) {
            return 0;
        }
        TreeMap<Integer, Long> after = new TreeMap<>(kept);
        after.remove(key);
        return change(after, 1) ? 1 : 0;
    }

    private int addStep(Step step) {
        if (steps.size() == 5) {
            return 0;
        }
        steps.add(step);
        return 3;
    }

    private boolean change(TreeMap<Integer, Long> after, int written) {
        if (after.size() > 60 || pagesOf(after) > room) {
            return false;
        }
        if (unflushed.size() + written > 64) {
            unflushed.clear();
        }
        calls++;
        for (int i = 1; i <= written; i++) {
            unflushed.add(new Entry(kept, calls, i == written));
        }
        kept = after;
        return true;
    }

    boolean has(int key) {
        return kept.containsKey(key);
    }

    long get(int key) {
        return kept.getOrDefault(key, 0L);
    }

    int reads(int key) {
        List<Integer> keys = keysOf(kept, bucketOf(Keys.hash(key)));
        int pages = 0;
        for (int from = 0; from == 0 || from < keys.size(); from += 4) {
            pages++;
            List<Integer> page = keys.subList(from, Math.min(from + 4, keys.size()));
            if (page.contains(key) || !page.isEmpty() && page.get(page.size() - 1) > key) {
                break;
            }
        }
        return 1 + pages + (has(key) ? valuePages(get(key)) : 0);
    }

    boolean open() {
        if (steps != null) {
            return false;
        }
        steps = new ArrayList<>();
        return true;
    }

    int commit() {
        if (steps == null) {
            return -1;
        }
        TreeMap<Integer, Long> after = new TreeMap<>(kept);
        for (Step step : steps) {
            if (step.isPut()) {
                after.put(step.key(), step.value());
            } else {
                after.remove(step.key());
            }
        }
        int written = steps.size() + 1;
        steps = null;
        return change(after, written) ? written : 0;
    }

    int abandon() {
        int dropped = steps();
        steps = null;
        return dropped;
    }

    int flush() {
        int flushed = unflushed.size();
        unflushed.clear();
        return flushed;
    }

    int crash(int survive) {
        int survivors = survive < 0 ? 0 : Math.min(survive, unflushed.size());
        while (survivors > 0 && !unflushed.get(survivors - 1).isLastOfCall()) {
            survivors--;
        }
        int lost = unflushed.size() - survivors;
        if (lost > 0) {
            kept = unflushed.get(survivors).before();
        }
        unflushed.clear();
        steps = null;
        return lost;
    }

    int unflushed() {
        return unflushed.size();
    }

    int steps() {
        return steps == null ? -1 : steps.size();
    }

    int size() {
        return kept.size();
    }

    int pages() {
        return pagesOf(kept);
    }

    int globalDepth() {
        return deepest(bucketsOf(kept));
    }

    int localDepth(int key) {
        return bucketOf(Keys.hash(key)).depth();
    }

    int buckets() {
        return bucketsOf(kept).size();
    }

    int bucketAt(int i) {
        List<Bucket> buckets = bucketsOf(kept);
        return i < 0 || i >= buckets.size() ? -1 : buckets.get(i).place();
    }

    int keyAt(int i) {
        List<Integer> keys = new ArrayList<>();
        for (Bucket bucket : bucketsOf(kept)) {
            keys.addAll(keysOf(kept, bucket));
        }
        return i < 0 || i >= keys.size() ? 0 : keys.get(i);
    }

    private Bucket bucketOf(int hash) {
        for (Bucket bucket : bucketsOf(kept)) {
            if (hash % (1 << bucket.depth()) == bucket.place()) {
                return bucket;
            }
        }
        throw new IllegalStateException("a hash without a bucket: " + hash);
    }

    private static int deepest(List<Bucket> buckets) {
        int deepest = 0;
        for (Bucket bucket : buckets) {
            deepest = Math.max(deepest, bucket.depth());
        }
        return deepest;
    }

    private static List<Bucket> bucketsOf(TreeMap<Integer, Long> map) {
        List<Bucket> buckets = new ArrayList<>();
        for (int depth = 0; depth <= 6; depth++) {
            for (int place = 0; place < 1 << depth; place++) {
                if (isGood(map, depth, place)
                        && (depth == 0 || !isGood(map, depth - 1, place % (1 << depth - 1)))) {
                    buckets.add(new Bucket(depth, place));
                }
            }
        }
        buckets.sort((a, b) -> Integer.compare(a.place(), b.place()));
        return buckets;
    }

    private static boolean isGood(TreeMap<Integer, Long> map, int depth, int place) {
        List<Integer> keys = keysOf(map, new Bucket(depth, place));
        return keys.size() <= 4 || keys.stream().map(Keys::hash).distinct().count() == 1;
    }

    private static List<Integer> keysOf(TreeMap<Integer, Long> map, Bucket bucket) {
        List<Integer> keys = new ArrayList<>();
        for (int key : map.keySet()) {
            if (Keys.hash(key) % (1 << bucket.depth()) == bucket.place()) {
                keys.add(key);
            }
        }
        return keys;
    }

    private static int pagesOf(TreeMap<Integer, Long> map) {
        List<Bucket> buckets = bucketsOf(map);
        int pages = 1 + ((1 << deepest(buckets)) + 15) / 16;
        for (Bucket bucket : buckets) {
            int keys = keysOf(map, bucket).size();
            pages += keys == 0 ? 1 : (keys + 3) / 4;
        }
        for (long value : map.values()) {
            pages += valuePages(value);
        }
        return pages;
    }

    private static int valuePages(long value) {
        int bytes = 1;
        BigInteger end = BigInteger.valueOf(256);
        while (BigInteger.valueOf(value).compareTo(end) >= 0) {
            bytes++;
            end = end.shiftLeft(8);
        }
        bytes = value < 0 ? 8 : bytes;
        return bytes > 2 ? (bytes + 1) / 2 : 0;
    }
}
