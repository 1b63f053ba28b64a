/** Promises 1 to 6: a new object, put, delete, has, get, reads. */
public final class StoreTest {
    private static final long FOUR_PAGES = -1L;
    private static final long TWO_PAGES = 65536L;
    private static final Check CHECK = new Check("StoreTest");

    public static void main(String[] args) {
        newObjectIsEmpty();
        newObjectHasItsPages();
        putAddsAndReplaces();
        putRefusesTheSixtyFirstKey();
        putRefusesTooManyPages();
        putRefusesASplitThatNeedsTooManyPages();
        putBecomesAStep();
        deleteDropsTheKey();
        deleteBecomesAStep();
        hasAndGetTellWhatIsKept();
        valuesHaveTheirPages();
        readsGoThroughTheBucket();
        readsOfAnEmptyBucket();
        CHECK.finish();
    }

    private static void newObjectIsEmpty() {
        ExtendiblePages x = new ExtendiblePages(50);
        CHECK.due("size() of a new object", x.size(), 0);
        CHECK.due("pages() of a new object", x.pages(), 3);
        CHECK.due("unflushed() of a new object", x.unflushed(), 0);
        CHECK.due("steps() of a new object", x.steps(), -1);
        CHECK.due("buckets() of a new object", x.buckets(), 1);
        CHECK.due("bucketAt(0) of a new object", x.bucketAt(0), 0);
        CHECK.due("globalDepth() of a new object", x.globalDepth(), 0);
        CHECK.due("localDepth(77) of a new object", x.localDepth(77), 0);
        CHECK.due("has(0) of a new object", x.has(0), false);
        CHECK.due("keyAt(0) of a new object", x.keyAt(0), 0);
        CHECK.due("crash(5) of a new object", x.crash(5), 0);
        CHECK.due("flush() of a new object", x.flush(), 0);
    }

    private static void newObjectHasItsPages() {
        int[] asked = {Integer.MIN_VALUE, -1, 0, 7, 8, 9, 63, 199, 200, 201, Integer.MAX_VALUE};
        int[] due = {8, 8, 8, 8, 8, 9, 63, 199, 200, 200, 200};
        for (int i = 0; i < asked.length; i++) {
            CHECK.due("pages of ExtendiblePages(" + asked[i] + ")", fill(asked[i]), due[i]);
        }
    }

    /** Fills a store with keys of one hash, large values first, and answers its pages in use. */
    private static int fill(int pages) {
        ExtendiblePages x = new ExtendiblePages(pages);
        int n = 0;
        for (long value : new long[] {FOUR_PAGES, TWO_PAGES, 1L}) {
            while (x.put(Keys.withHash(9, n), value) == 1) {
                n++;
            }
        }
        CHECK.due("60 keys end the filling of " + pages, n < 60, true);
        return x.pages();
    }

    private static void putAddsAndReplaces() {
        ExtendiblePages x = new ExtendiblePages(50);
        CHECK.due("put(7, 5)", x.put(7, 5L), 1);
        CHECK.due("put(7, 5) again", x.put(7, 5L), 2);
        CHECK.due("put(7, 6)", x.put(7, 6L), 2);
        CHECK.due("get(7)", x.get(7), 6);
        CHECK.due("put(MIN, MIN)", x.put(Integer.MIN_VALUE, Long.MIN_VALUE), 1);
        CHECK.due("put(MAX, MAX)", x.put(Integer.MAX_VALUE, Long.MAX_VALUE), 1);
        CHECK.due("get(MIN)", x.get(Integer.MIN_VALUE), Long.MIN_VALUE);
        CHECK.due("get(MAX)", x.get(Integer.MAX_VALUE), Long.MAX_VALUE);
        CHECK.due("unflushed(), one record a put", x.unflushed(), 5);
        CHECK.due("size()", x.size(), 3);
    }

    private static void putRefusesTheSixtyFirstKey() {
        ExtendiblePages x = new ExtendiblePages(200);
        for (int n = 0; n < 60; n++) {
            CHECK.due("put of key " + n, x.put(Keys.withHash(3, n), n), 1);
        }
        CHECK.due("unflushed() with 60 keys", x.unflushed(), 60);
        CHECK.due("put of the 61st key", x.put(Keys.withHash(3, 60), 1L), 0);
        CHECK.due("has after the refusal", x.has(Keys.withHash(3, 60)), false);
        CHECK.due("size() after the refusal", x.size(), 60);
        CHECK.due("unflushed() after the refusal", x.unflushed(), 60);
        CHECK.due("put of a kept key", x.put(Keys.withHash(3, 59), 8L), 2);
        CHECK.due("delete makes room", x.delete(Keys.withHash(3, 0)), 1);
        CHECK.due("put into the room", x.put(Keys.withHash(3, 60), 1L), 1);
        CHECK.due("pages() of one bucket of 60 keys", x.pages(), 17);
    }

    private static void putRefusesTooManyPages() {
        ExtendiblePages x = new ExtendiblePages(8);
        CHECK.due("put(1, -1)", x.put(1, FOUR_PAGES), 1);
        CHECK.due("put(2, 65536)", x.put(2, TWO_PAGES), 0);
        CHECK.due("size() after the refusal", x.size(), 1);
        CHECK.due("unflushed() after the refusal", x.unflushed(), 1);
        CHECK.due("put(2, 65535)", x.put(2, 65535L), 1);
        CHECK.due("put(2, 65536) over a kept value", x.put(2, TWO_PAGES), 0);
        CHECK.due("get(2) after the refusal", x.get(2), 65535);
        CHECK.due("put(1, 2^40), 3 pages", x.put(1, 1L << 40), 2);
        CHECK.due("pages()", x.pages(), 6);
        CHECK.due("put(2, 65536) with room", x.put(2, TWO_PAGES), 2);
        CHECK.due("pages(), all in use", x.pages(), 8);
        CHECK.due("put(3, 1), no page more", x.put(3, 1L), 1);
        CHECK.due("put(3, 65536)", x.put(3, TWO_PAGES), 0);
        CHECK.due("unflushed()", x.unflushed(), 5);
    }

    private static void putRefusesASplitThatNeedsTooManyPages() {
        ExtendiblePages x = new ExtendiblePages(14);
        for (int n = 0; n < 6; n++) {
            x.put(Keys.withHash(5, n), 1L);
        }
        // Hash 37 differs from 5 in the highest bit alone: 4 pages of directory and 8 of buckets.
        CHECK.due("pages() before the split", x.pages(), 4);
        CHECK.due("put that splits to depth 6", x.put(37, 1L), 1);
        CHECK.due("pages() after the split", x.pages(), 13);
        CHECK.due("delete(37)", x.delete(37), 1);
        x.put(Keys.withHash(5, 0), TWO_PAGES);
        CHECK.due("put that splits, a page too few", x.put(37, 1L), 0);
        CHECK.due("globalDepth() after the refusal", x.globalDepth(), 0);
        CHECK.due("buckets() after the refusal", x.buckets(), 1);
        CHECK.due("pages() after the refusal", x.pages(), 6);
        CHECK.due("keyAt(6) after the refusal", x.keyAt(6), 0);
    }

    private static void putBecomesAStep() {
        ExtendiblePages x = new ExtendiblePages(8);
        x.put(1, 1L);
        x.open();
        for (int step = 0; step < 5; step++) {
            CHECK.due("put as step " + step, x.put(step, FOUR_PAGES), 3);
        }
        CHECK.due("put as a sixth step", x.put(1, 2L), 0);
        CHECK.due("steps()", x.steps(), 5);
        CHECK.due("get(1) beside the steps", x.get(1), 1);
        CHECK.due("size() beside the steps", x.size(), 1);
        CHECK.due("pages() beside the steps", x.pages(), 3);
        CHECK.due("unflushed() beside the steps", x.unflushed(), 1);
    }

    private static void deleteDropsTheKey() {
        ExtendiblePages x = new ExtendiblePages(50);
        CHECK.due("delete(4) of none", x.delete(4), 0);
        CHECK.due("unflushed() after the refusal", x.unflushed(), 0);
        x.put(4, FOUR_PAGES);
        x.put(-4, 9L);
        CHECK.due("delete(4)", x.delete(4), 1);
        CHECK.due("has(4)", x.has(4), false);
        CHECK.due("get(4)", x.get(4), 0);
        CHECK.due("get(-4)", x.get(-4), 9);
        CHECK.due("pages()", x.pages(), 3);
        CHECK.due("unflushed()", x.unflushed(), 3);
        CHECK.due("delete(4) again", x.delete(4), 0);
        CHECK.due("delete(-4)", x.delete(-4), 1);
        CHECK.due("size()", x.size(), 0);
    }

    private static void deleteBecomesAStep() {
        ExtendiblePages x = new ExtendiblePages(50);
        x.put(1, 1L);
        x.open();
        CHECK.due("delete(1) as a step", x.delete(1), 3);
        CHECK.due("delete(1) as a step again", x.delete(1), 3);
        CHECK.due("delete(2), not kept, as a step", x.delete(2), 3);
        CHECK.due("delete(3), not kept, as a step", x.delete(3), 3);
        CHECK.due("put(3, 3) as a step", x.put(3, 3L), 3);
        CHECK.due("delete as a sixth step", x.delete(1), 0);
        CHECK.due("has(1) beside the steps", x.has(1), true);
        CHECK.due("steps()", x.steps(), 5);
    }

    private static void hasAndGetTellWhatIsKept() {
        ExtendiblePages x = new ExtendiblePages(50);
        x.put(0, 0L);
        x.put(64, 7L);
        CHECK.due("has(0)", x.has(0), true);
        CHECK.due("get(0)", x.get(0), 0);
        CHECK.due("has(64)", x.has(64), true);
        CHECK.due("get(64)", x.get(64), 7);
        CHECK.due("has(1), of the same hash as 64", x.has(1), false);
        CHECK.due("get(1)", x.get(1), 0);
        CHECK.due("has(-1)", x.has(-1), false);
        CHECK.due("has(65)", x.has(65), false);
    }

    private static void valuesHaveTheirPages() {
        long[] values = {0L, 255L, 256L, 65535L, 65536L, (1L << 24) - 1, 1L << 24, (1L << 32) - 1,
            1L << 32, (1L << 40) - 1, 1L << 40, (1L << 48) - 1, 1L << 48, (1L << 56) - 1, 1L << 56,
            Long.MAX_VALUE, -1L, -256L, Long.MIN_VALUE};
        int[] due = {0, 0, 0, 0, 2, 2, 2, 2, 3, 3, 3, 3, 4, 4, 4, 4, 4, 4, 4};
        ExtendiblePages x = new ExtendiblePages(50);
        for (int i = 0; i < values.length; i++) {
            x.put(1, values[i]);
            CHECK.due("pages() with the value " + values[i], x.pages(), 3 + due[i]);
            CHECK.due("reads(1) with the value " + values[i], x.reads(1), 2 + due[i]);
        }
    }

    private static void readsGoThroughTheBucket() {
        ExtendiblePages x = new ExtendiblePages(100);
        int[] keys = new int[9];
        keys[0] = 0x80000002 ^ Keys.hash(0x80000002);
        for (int n = 1; n < 9; n++) {
            keys[n] = Keys.withHash(0, 2 * n);
        }
        for (int n = 8; n >= 0; n--) {
            x.put(keys[n], n == 4 ? FOUR_PAGES : 1L);
        }
        CHECK.due("keys of one hash stand in one bucket", x.buckets(), 1);
        CHECK.due("reads of the lowest key, below 0", x.reads(keys[0]), 2);
        CHECK.due("reads of the last key of page 1", x.reads(keys[3]), 2);
        CHECK.due("reads of the first key of page 2, with its value", x.reads(keys[4]), 7);
        CHECK.due("reads of the last key of page 2", x.reads(keys[7]), 3);
        CHECK.due("reads of the key of page 3", x.reads(keys[8]), 4);
        CHECK.due("reads below all", x.reads(Integer.MIN_VALUE), 2);
        CHECK.due("reads within page 1", x.reads(keys[3] - 1), 2);
        CHECK.due("reads between page 1 and 2", x.reads(keys[3] + 1), 3);
        CHECK.due("reads between page 2 and 3", x.reads(keys[7] + 1), 4);
        CHECK.due("reads above all", x.reads(Integer.MAX_VALUE), 4);
        x.delete(keys[8]);
        CHECK.due("reads above a full last page", x.reads(Integer.MAX_VALUE), 3);
    }

    private static void readsOfAnEmptyBucket() {
        ExtendiblePages x = new ExtendiblePages(100);
        CHECK.due("reads(1) of an empty store", x.reads(1), 2);
        for (int n = 0; n < 5; n++) {
            x.put(2 * n, 1L);
        }
        CHECK.due("reads(1) of a bucket without keys", x.reads(1), 2);
        x.put(1, TWO_PAGES);
        CHECK.due("reads(1), kept with 2 pages", x.reads(1), 4);
        CHECK.due("reads(3), not kept, beside it", x.reads(3), 2);
    }
}
