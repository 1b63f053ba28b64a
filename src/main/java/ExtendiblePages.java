/**
 * Keeps long values under int keys in pages, found through a directory of buckets; changes alone or
 * in batches; crashes lose the newest of what was not flushed.
 *
 * <p>Only the keys, their values and how many keys each class of hashes has are held. Buckets, depths
 * and pages follow from these and are worked out when they are asked for, so that taking a change
 * back needs no more than putting the former value of its key back.
 */
public final class ExtendiblePages {
    public static final int NONE = -1;

    private static final int REFUSED = 0;
    private static final int ADDED = 1;
    private static final int REPLACED = 2;
    private static final int DELETED = 1;
    private static final int STEP_TAKEN = 3;

    private static final int FEWEST_PAGES = 8;
    private static final int MOST_PAGES = 200;
    private static final int MOST_KEYS = 60;
    private static final int MOST_STEPS = 5;
    private static final int MOST_UNFLUSHED = 64;

    private static final int HASH_BITS = 6;
    private static final int HASHES = 1 << HASH_BITS;
    private static final int CELLS_PER_PAGE = 16;
    private static final int KEYS_PER_PAGE = 4;
    private static final int BYTES_WITHOUT_PAGE = 2;
    private static final int BYTES_PER_PAGE = 2;
    private static final int MOST_BYTES = 8;

    private final int pagesOfStore;
    private final Kept kept;
    private final Records records;
    private final Batch batch;

    public ExtendiblePages(int pages) {
        pagesOfStore = Math.max(FEWEST_PAGES, Math.min(MOST_PAGES, pages));
        kept = new Kept();
        records = new Records();
        batch = new Batch();
    }

    public int put(int key, long value) {
        if (batch.isOpen) {
            return batch.take(true, key, value);
        }
        int first = records.count;
        boolean wasKept = kept.holds(key);
        recordAndSet(key, value);
        if (isOverfull()) {
            takeBackFrom(first);
            return REFUSED;
        }
        records.settle(first);
        return wasKept ? REPLACED : ADDED;
    }

    public int delete(int key) {
        if (batch.isOpen) {
            return batch.take(false, key, 0L);
        }
        if (!kept.holds(key)) {
            return REFUSED;
        }
        int first = records.count;
        recordAndRemove(key);
        records.settle(first);
        return DELETED;
    }

    public boolean has(int key) {
        return kept.holds(key);
    }

    public long get(int key) {
        return kept.valueOf(key);
    }

    public int reads(int key) {
        int pagesOfValue = kept.holds(key) ? valuePages(kept.valueOf(key)) : 0;
        return 1 + kept.bucketPagesUpTo(key) + pagesOfValue;
    }

    public boolean open() {
        if (batch.isOpen) {
            return false;
        }
        batch.begin();
        return true;
    }

    public int commit() {
        if (!batch.isOpen) {
            return NONE;
        }
        int first = records.count;
        doStepsOfBatch();
        batch.end();
        if (isOverfull()) {
            takeBackFrom(first);
            return REFUSED;
        }
        records.closeBatch(first);
        int written = records.count - first;
        records.settle(first);
        return written;
    }

    public int abandon() {
        if (!batch.isOpen) {
            return NONE;
        }
        int dropped = batch.count;
        batch.end();
        return dropped;
    }

    public int flush() {
        int flushed = records.count;
        records.forgetFrom(0);
        return flushed;
    }

    public int crash(int survive) {
        int survivors = records.survivorsAmongFirst(survive);
        int lost = records.count - survivors;
        takeBackFrom(survivors);
        records.forgetFrom(0);
        batch.end();
        return lost;
    }

    public int unflushed() {
        return records.count;
    }

    public int steps() {
        return batch.isOpen ? batch.count : NONE;
    }

    public int size() {
        return kept.count;
    }

    public int pages() {
        return kept.pagesInUse();
    }

    public int globalDepth() {
        return kept.classes.deepest();
    }

    public int localDepth(int key) {
        return kept.classes.depthOf(hash(key));
    }

    public int buckets() {
        return kept.classes.countPlaces();
    }

    public int bucketAt(int i) {
        if (i < 0) {
            return NONE;
        }
        int left = i;
        for (int place = 0; place < HASHES; place++) {
            if (kept.classes.isPlace(place)) {
                if (left == 0) {
                    return place;
                }
                left--;
            }
        }
        return NONE;
    }

    public int keyAt(int i) {
        return kept.keyInPlaceOrder(i);
    }

    private void recordAndSet(int key, long value) {
        records.write(key, kept.holds(key), kept.valueOf(key));
        kept.set(key, value);
    }

    private void recordAndRemove(int key) {
        records.write(key, kept.holds(key), kept.valueOf(key));
        kept.remove(key);
    }

    private void doStepsOfBatch() {
        for (int step = 0; step < batch.count; step++) {
            if (batch.isPut[step]) {
                recordAndSet(batch.keys[step], batch.values[step]);
            } else {
                recordAndRemove(batch.keys[step]);
            }
        }
    }

    private boolean isOverfull() {
        return kept.count > MOST_KEYS || kept.pagesInUse() > pagesOfStore;
    }

    /** Newest first: a key that several records changed ends with what it had before the oldest. */
    private void takeBackFrom(int first) {
        for (int i = records.count - 1; i >= first; i--) {
            if (records.formers[i] == Records.FORMER_VALUE) {
                kept.set(records.keys[i], records.values[i]);
            } else if (records.formers[i] == Records.FORMER_ABSENT) {
                kept.remove(records.keys[i]);
            }
        }
        records.forgetFrom(first);
    }

    private static int hash(int key) {
        return (key ^ key >>> 6 ^ key >>> 12 ^ key >>> 18 ^ key >>> 24 ^ key >>> 30) & HASHES - 1;
    }

    private static int directoryPages(int cells) {
        return (cells + CELLS_PER_PAGE - 1) / CELLS_PER_PAGE;
    }

    private static int bucketPages(int keys) {
        return Math.max(1, (keys + KEYS_PER_PAGE - 1) / KEYS_PER_PAGE);
    }

    private static int valuePages(long value) {
        int bytes = bytesOf(value);
        return bytes > BYTES_WITHOUT_PAGE ? (bytes + BYTES_PER_PAGE - 1) / BYTES_PER_PAGE : 0;
    }

    private static int bytesOf(long value) {
        // 256^8 is no long, so the eighth byte is what is left; a value below 0 comes out there too.
        for (int bytes = 1; bytes < MOST_BYTES; bytes++) {
            if (value >>> 8 * bytes == 0L) {
                return bytes;
            }
        }
        return MOST_BYTES;
    }

    /** How many keys, and how many different hashes of keys, every class has. */
    private static final class Classes {
        private static final int MOST_KEYS_OF_MIXED_HASHES = 4;

        // The class (d, p) stands at 2^d + p, so that no two classes share a cell.
        private final int[] keysIn = new int[2 * HASHES];
        private final int[] hashesIn = new int[2 * HASHES];

        /** change is 1 when a key with the hash comes, -1 when one goes. */
        void countKey(int hash, int change) {
            int before = keysIn[cell(HASH_BITS, hash)];
            boolean hashComesOrGoes = before == 0 || before + change == 0;
            for (int depth = 0; depth <= HASH_BITS; depth++) {
                int cell = cell(depth, hash);
                keysIn[cell] += change;
                if (hashComesOrGoes) {
                    hashesIn[cell] += change;
                }
            }
        }

        /** A class within a good class is good, so the first good one from above is the bucket. */
        int depthOf(int hash) {
            for (int depth = 0; depth < HASH_BITS; depth++) {
                if (isGood(cell(depth, hash))) {
                    return depth;
                }
            }
            return HASH_BITS;
        }

        int deepest() {
            int deepest = 0;
            for (int hash = 0; hash < HASHES; hash++) {
                deepest = Math.max(deepest, depthOf(hash));
            }
            return deepest;
        }

        /** As many lowest bits as its bucket is deep: the hashes of the bucket agree in these. */
        int maskOf(int hash) {
            return (1 << depthOf(hash)) - 1;
        }

        /** A place is itself a hash of its bucket, the lowest one. */
        boolean isPlace(int hash) {
            return (hash & maskOf(hash)) == hash;
        }

        int countPlaces() {
            int places = 0;
            for (int hash = 0; hash < HASHES; hash++) {
                if (isPlace(hash)) {
                    places++;
                }
            }
            return places;
        }

        int keysOfBucket(int hash) {
            return keysIn[cell(depthOf(hash), hash)];
        }

        private boolean isGood(int cell) {
            return keysIn[cell] <= MOST_KEYS_OF_MIXED_HASHES || hashesIn[cell] == 1;
        }

        private static int cell(int depth, int hash) {
            int classes = 1 << depth;
            return classes + (hash & classes - 1);
        }
    }

    /** The keys that are kept, ascending, with their values. */
    private static final class Kept {
        // A batch is done before it is judged, so all its steps may add to a full store for a while.
        private static final int CAPACITY = MOST_KEYS + MOST_STEPS;

        private final int[] keys = new int[CAPACITY];
        private final long[] values = new long[CAPACITY];
        private final Classes classes = new Classes();
        private int count;

        boolean holds(int key) {
            return isAt(keysBelow(key), key);
        }

        long valueOf(int key) {
            int at = keysBelow(key);
            return isAt(at, key) ? values[at] : 0L;
        }

        void set(int key, long value) {
            int at = keysBelow(key);
            if (isAt(at, key)) {
                values[at] = value;
            } else if (count < CAPACITY) {
                insert(at, key, value);
            }
        }

        void remove(int key) {
            int at = keysBelow(key);
            if (isAt(at, key)) {
                count--;
                System.arraycopy(keys, at + 1, keys, at, count - at);
                System.arraycopy(values, at + 1, values, at, count - at);
                classes.countKey(hash(key), -1);
            }
        }

        int pagesInUse() {
            int pages = 1 + directoryPages(1 << classes.deepest());
            for (int place = 0; place < HASHES; place++) {
                if (classes.isPlace(place)) {
                    pages += bucketPages(classes.keysOfBucket(place));
                }
            }
            for (int i = 0; i < count; i++) {
                pages += valuePages(values[i]);
            }
            return pages;
        }

        /** How many pages of its bucket a look for the key reads. */
        int bucketPagesUpTo(int key) {
            int mask = classes.maskOf(hash(key));
            int place = hash(key) & mask;
            int below = 0;
            for (int i = 0; i < count && keys[i] < key; i++) {
                if ((hash(keys[i]) & mask) == place) {
                    below++;
                }
            }
            // The look ends at the first key that is not below, or else at the last there is.
            int last = Math.max(0, classes.keysOfBucket(place) - 1);
            return Math.min(below, last) / KEYS_PER_PAGE + 1;
        }

        int keyInPlaceOrder(int number) {
            if (number < 0 || number >= count) {
                return 0;
            }
            int left = number;
            for (int place = 0; place < HASHES; place++) {
                if (classes.isPlace(place)) {
                    int inBucket = classes.keysOfBucket(place);
                    if (left < inBucket) {
                        return keyInBucket(place, left);
                    }
                    left -= inBucket;
                }
            }
            return 0;
        }

        private int keyInBucket(int place, int number) {
            int mask = classes.maskOf(place);
            int left = number;
            for (int i = 0; i < count; i++) {
                if ((hash(keys[i]) & mask) == place) {
                    if (left == 0) {
                        return keys[i];
                    }
                    left--;
                }
            }
            return 0;
        }

        private boolean isAt(int at, int key) {
            return at < count && keys[at] == key;
        }

        private int keysBelow(int key) {
            int below = 0;
            while (below < count && keys[below] < key) {
                below++;
            }
            return below;
        }

        private void insert(int at, int key, long value) {
            System.arraycopy(keys, at, keys, at + 1, count - at);
            System.arraycopy(values, at, values, at + 1, count - at);
            keys[at] = key;
            values[at] = value;
            count++;
            classes.countKey(hash(key), 1);
        }
    }

    /**
     * The unflushed records, oldest first, each with what its key had before. Flushed ones can no
     * longer be taken back, so nothing of them is held.
     */
    private static final class Records {
        static final int FORMER_NONE = 0;
        static final int FORMER_ABSENT = 1;
        static final int FORMER_VALUE = 2;

        // A call's records stand behind the older ones until it is clear that they stay.
        private static final int CAPACITY = MOST_UNFLUSHED + MOST_STEPS + 1;

        private final int[] keys = new int[CAPACITY];
        private final long[] values = new long[CAPACITY];
        private final int[] formers = new int[CAPACITY];
        // The first record of the batch that a record belongs to; itself when it was written alone.
        private final int[] starts = new int[CAPACITY];
        private int count;

        void write(int key, boolean wasKept, long formerValue) {
            append(key, formerValue, wasKept ? FORMER_VALUE : FORMER_ABSENT);
        }

        /** Writes the record for the batch whose steps are the records from first on. */
        void closeBatch(int first) {
            append(0, 0L, FORMER_NONE);
            for (int i = first; i < count; i++) {
                starts[i] = first;
            }
        }

        /** The records from first on stay; if all are too many, the older ones become flushed. */
        void settle(int first) {
            if (count <= MOST_UNFLUSHED) {
                return;
            }
            int written = count - first;
            for (int i = 0; i < written; i++) {
                keys[i] = keys[first + i];
                values[i] = values[first + i];
                formers[i] = formers[first + i];
                starts[i] = starts[first + i] - first;
            }
            count = written;
        }

        int survivorsAmongFirst(int most) {
            int cut = Math.max(0, Math.min(count, most));
            return cut < count ? starts[cut] : count;
        }

        void forgetFrom(int first) {
            count = Math.min(count, first);
        }

        private void append(int key, long formerValue, int former) {
            if (count < CAPACITY) {
                keys[count] = key;
                values[count] = formerValue;
                formers[count] = former;
                starts[count] = count;
                count++;
            }
        }
    }

    /** The batch, while it is open, and its steps. */
    private static final class Batch {
        private final boolean[] isPut = new boolean[MOST_STEPS];
        private final int[] keys = new int[MOST_STEPS];
        private final long[] values = new long[MOST_STEPS];
        private boolean isOpen;
        private int count;

        void begin() {
            isOpen = true;
            count = 0;
        }

        void end() {
            isOpen = false;
            count = 0;
        }

        int take(boolean put, int key, long value) {
            if (count >= MOST_STEPS) {
                return REFUSED;
            }
            isPut[count] = put;
            keys[count] = key;
            values[count] = value;
            count++;
            return STEP_TAKEN;
        }
    }
}
