/** Promises 1 to 6, sentence by sentence: a new object, put, delete, has, get, reads. */
public final class StoreTest {
    private static final int MIN = Integer.MIN_VALUE;
    private static final int MAX = Integer.MAX_VALUE;
    private static final long FOUR_PAGES = -1L;
    private static final long TWO_PAGES = 65536L;
    private static final Check CHECK = new Check("StoreTest");

    public static void main(String[] args) {
        newObjectIsEmpty();
        newObjectOfTooFewPages();
        newObjectOfTooManyPages();
        newObjectHasNoRecordAndNoBatch();
        objectsAreApart();
        putGivesTheKeyItsValue();
        putWritesOneRecord();
        putTellsNewFromKept();
        putOfTheSixtyFirstKey();
        putOfTooManyPagesOfValues();
        putOfTooManyPagesOfABucket();
        putOfTooManyPagesOfASplit();
        putBecomesAStep();
        putBeyondFiveSteps();
        deleteDropsTheKey();
        deleteOfAKeyThatIsNotKept();
        deleteBecomesAStep();
        deleteBeyondFiveSteps();
        hasTellsWhatIsKept();
        getTellsTheValue();
        getOfAKeyThatIsNotKept();
        readsOnePageOfTheDirectory();
        readsTheBucketOfTheKeyOnly();
        readsUpToThePageThatHasTheKey();
        readsUpToThePageWhoseLastKeyIsAbove();
        readsUpToTheLastPage();
        readsTheValueOfAKeptKey();
        CHECK.finish();
    }

    // Promise 1

    private static void newObjectIsEmpty() {
        CHECK.sentence("An empty store of so many pages");
        ExtendiblePages x = new ExtendiblePages(50);
        CHECK.due("size()", x.size(), 0);
        CHECK.due("pages()", x.pages(), 3);
        CHECK.due("buckets()", x.buckets(), 1);
        CHECK.due("bucketAt(0)", x.bucketAt(0), 0);
        CHECK.due("globalDepth()", x.globalDepth(), 0);
        CHECK.due("localDepth(77)", x.localDepth(77), 0);
        CHECK.due("has(0)", x.has(0), false);
        CHECK.due("get(0)", x.get(0), 0);
        CHECK.due("reads(0)", x.reads(0), 2);
        CHECK.due("keyAt(0)", x.keyAt(0), 0);
        for (int pages : new int[] {8, 9, 63, 199, 200}) {
            CHECK.due("pages of ExtendiblePages(" + pages + ")", Stores.full(pages).pages(), pages);
        }
    }

    private static void newObjectOfTooFewPages() {
        CHECK.sentence("8 when pages is below 8");
        for (int pages : new int[] {MIN, MIN + 1, -200, -8, -1, 0, 1, 3, 7}) {
            CHECK.due("pages of ExtendiblePages(" + pages + ")", Stores.full(pages).pages(), 8);
        }
    }

    private static void newObjectOfTooManyPages() {
        CHECK.sentence("200 when it is above 200");
        for (int pages : new int[] {201, 202, 256, 1000, MAX - 1, MAX}) {
            CHECK.due("pages of ExtendiblePages(" + pages + ")", Stores.full(pages).pages(), 200);
        }
    }

    private static void newObjectHasNoRecordAndNoBatch() {
        CHECK.sentence("No record, no batch.");
        ExtendiblePages x = new ExtendiblePages(50);
        CHECK.due("unflushed()", x.unflushed(), 0);
        CHECK.due("flush()", x.flush(), 0);
        CHECK.due("crash(5)", x.crash(5), 0);
        x = new ExtendiblePages(50);
        CHECK.due("steps()", x.steps(), ExtendiblePages.NONE);
        CHECK.due("commit()", x.commit(), ExtendiblePages.NONE);
        CHECK.due("abandon()", x.abandon(), ExtendiblePages.NONE);
        CHECK.due("put(1, 1), no step", x.put(1, 1L), 1);
    }

    private static void objectsAreApart() {
        CHECK.sentence("An empty store of so many pages");
        ExtendiblePages used = new ExtendiblePages(8);
        used.put(1, 1L);
        used.open();
        used.put(2, 2L);
        ExtendiblePages x = new ExtendiblePages(50);
        CHECK.due("the answers of a new object beside another", Stores.answers(x),
                "size 0, pages 3, unflushed 0, steps -1, global depth 0, places 0, values");
        x.put(1, 7L);
        CHECK.due("get(1) of the other", used.get(1), 1);
        CHECK.due("steps() of the other", used.steps(), 1);
    }

    // Promise 2

    private static void putGivesTheKeyItsValue() {
        CHECK.sentence("the value becomes that of the key");
        ExtendiblePages x = new ExtendiblePages(50);
        int[] keys = {0, 7, -7, MIN, MAX};
        long[] values = {0L, 5L, -5L, Long.MIN_VALUE, Long.MAX_VALUE};
        for (int i = 0; i < keys.length; i++) {
            x.put(keys[i], 3L);
            x.put(keys[i], values[i]);
        }
        for (int i = 0; i < keys.length; i++) {
            CHECK.due("get(" + keys[i] + ")", x.get(keys[i]), values[i]);
        }
        CHECK.due("size()", x.size(), 5);
    }

    private static void putWritesOneRecord() {
        CHECK.sentence("one record is written");
        ExtendiblePages x = new ExtendiblePages(50);
        x.put(7, 5L);
        CHECK.due("unflushed() after a new key", x.unflushed(), 1);
        x.put(7, 6L);
        CHECK.due("unflushed() after another value", x.unflushed(), 2);
        x.put(7, 6L);
        CHECK.due("unflushed() after the same value", x.unflushed(), 3);
    }

    private static void putTellsNewFromKept() {
        CHECK.sentence("answers 1 when the key was not kept before, 2 when it was (also with the same"
                + " value)");
        ExtendiblePages x = new ExtendiblePages(50);
        CHECK.due("put(7, 5)", x.put(7, 5L), 1);
        CHECK.due("put(7, 5), the same value", x.put(7, 5L), 2);
        CHECK.due("put(7, 6)", x.put(7, 6L), 2);
        CHECK.due("put(0, 0)", x.put(0, 0L), 1);
        CHECK.due("put(0, 0), the same value", x.put(0, 0L), 2);
        CHECK.due("put(65, 0), of the same hash", x.put(65, 0L), 1);
        x.flush();
        x.delete(7);
        CHECK.due("put(7, 6) of a deleted key", x.put(7, 6L), 1);
        x.crash(0);
        CHECK.due("put(7, 6), kept again after a crash", x.put(7, 6L), 2);
        x.put(8, 8L);
        x.crash(0);
        CHECK.due("put(8, 8), taken back by a crash", x.put(8, 8L), 1);
    }

    private static void putOfTheSixtyFirstKey() {
        CHECK.sentence("Refused, 0: 61 keys would be kept");
        ExtendiblePages x = Stores.ofOneHash(200, 3, 59);
        CHECK.due("put of the 60th key", x.put(Keys.withHash(3, 59), 1L), 1);
        CHECK.due("put of the 61st key", x.put(Keys.withHash(3, 60), 1L), 0);
        CHECK.due("put of the 61st key, of another hash", x.put(0, 1L), 0);
        CHECK.due("has after the refusal", x.has(Keys.withHash(3, 60)), false);
        CHECK.due("size() after the refusal", x.size(), 60);
        CHECK.due("unflushed() after the refusal", x.unflushed(), 60);
        CHECK.due("put of a kept key", x.put(Keys.withHash(3, 59), 8L), 2);
        CHECK.due("delete makes room", x.delete(Keys.withHash(3, 0)), 1);
        CHECK.due("put into the room", x.put(Keys.withHash(3, 60), 1L), 1);
        CHECK.due("put beyond it", x.put(Keys.withHash(3, 0), 1L), 0);
    }

    private static void putOfTooManyPagesOfValues() {
        CHECK.sentence("or more pages would be in use than the store has");
        ExtendiblePages x = new ExtendiblePages(8);
        CHECK.due("put(1, -1)", x.put(1, FOUR_PAGES), 1);
        CHECK.due("put(2, 65536) to 9 pages", x.put(2, TWO_PAGES), 0);
        CHECK.due("has(2) after the refusal", x.has(2), false);
        CHECK.due("size() after the refusal", x.size(), 1);
        CHECK.due("unflushed() after the refusal", x.unflushed(), 1);
        CHECK.due("put(2, 65535), no page more", x.put(2, 65535L), 1);
        CHECK.due("put(2, 65536) over a kept value", x.put(2, TWO_PAGES), 0);
        CHECK.due("get(2) after the refusal", x.get(2), 65535);
        CHECK.due("put(1, 2^40), 3 pages", x.put(1, 1L << 40), 2);
        CHECK.due("put(2, 65536) to 8 pages", x.put(2, TWO_PAGES), 2);
        CHECK.due("pages(), all in use", x.pages(), 8);
        CHECK.due("put(3, 1), no page more", x.put(3, 1L), 1);
        CHECK.due("put(3, 65536) to 10 pages", x.put(3, TWO_PAGES), 0);
        CHECK.due("put(1, -1) to 9 pages", x.put(1, FOUR_PAGES), 0);
        CHECK.due("put(2, 7) to fewer pages", x.put(2, 7L), 2);
        CHECK.due("unflushed()", x.unflushed(), 6);
    }

    private static void putOfTooManyPagesOfABucket() {
        CHECK.sentence("or more pages would be in use than the store has");
        ExtendiblePages x = Stores.ofOneHash(8, 12, 24);
        CHECK.due("pages() of 24 keys", x.pages(), 8);
        CHECK.due("put of the 25th, a page too many", x.put(Keys.withHash(12, 24), 1L), 0);
        CHECK.due("size() after the refusal", x.size(), 24);
        x.delete(Keys.withHash(12, 5));
        CHECK.due("put with room in a page", x.put(Keys.withHash(12, 24), 1L), 1);
    }

    private static void putOfTooManyPagesOfASplit() {
        CHECK.sentence("or more pages would be in use than the store has");
        // Hash 37 differs from 5 in the highest bit alone: 4 pages of directory and 8 of buckets.
        ExtendiblePages x = Stores.ofOneHash(13, 5, 6);
        CHECK.due("pages() before the split", x.pages(), 4);
        CHECK.due("put that splits to depth 6", x.put(37, 1L), 1);
        CHECK.due("pages() after the split", x.pages(), 13);
        x = Stores.ofOneHash(12, 5, 6);
        CHECK.due("put that splits, a page too few", x.put(37, 1L), 0);
        CHECK.due("globalDepth() after the refusal", x.globalDepth(), 0);
        CHECK.due("buckets() after the refusal", x.buckets(), 1);
        CHECK.due("pages() after the refusal", x.pages(), 4);
        CHECK.due("keyAt(6) after the refusal", x.keyAt(6), 0);
        CHECK.due("put of the same hash", x.put(Keys.withHash(5, 6), 1L), 1);
    }

    private static void putBecomesAStep() {
        CHECK.sentence("A batch is open: this becomes its next step; answers 3.");
        ExtendiblePages x = new ExtendiblePages(8);
        x.put(1, 1L);
        x.open();
        CHECK.due("put of a kept key", x.put(1, 2L), 3);
        CHECK.due("put of a new key", x.put(2, 2L), 3);
        CHECK.due("put of too many pages", x.put(3, FOUR_PAGES) + x.put(4, FOUR_PAGES), 6);
        CHECK.due("steps()", x.steps(), 4);
        CHECK.due("get(1) beside the steps", x.get(1), 1);
        CHECK.due("unflushed() beside the steps", x.unflushed(), 1);
        x = Stores.ofOneHash(200, 3, 60);
        x.open();
        CHECK.due("put of the 61st key", x.put(Keys.withHash(3, 60), 1L), 3);
    }

    private static void putBeyondFiveSteps() {
        CHECK.sentence("Refused, 0: it has 5 steps.");
        ExtendiblePages x = new ExtendiblePages(50);
        x.open();
        for (int step = 1; step <= 5; step++) {
            CHECK.due("put as step " + step, x.put(step, 1L), 3);
        }
        CHECK.due("put as a sixth step", x.put(6, 1L), 0);
        CHECK.due("put over a step", x.put(1, 9L), 0);
        CHECK.due("steps()", x.steps(), 5);
        CHECK.due("commit()", x.commit(), 6);
        CHECK.due("has(6)", x.has(6), false);
        CHECK.due("get(1)", x.get(1), 1);
    }

    // Promise 3

    private static void deleteDropsTheKey() {
        CHECK.sentence("the key and its value are kept no more; one record is written; answers 1.");
        ExtendiblePages x = new ExtendiblePages(50);
        for (int key : new int[] {4, -4, 0, MIN, MAX}) {
            x.put(key, FOUR_PAGES - Math.abs((long) key));
        }
        CHECK.due("pages() before", x.pages(), 4 + 20);
        int left = 5;
        for (int key : new int[] {MIN, 4, 0, MAX, -4}) {
            CHECK.due("delete(" + key + ")", x.delete(key), 1);
            left--;
            CHECK.due("has(" + key + ")", x.has(key), false);
            CHECK.due("get(" + key + ")", x.get(key), 0);
            CHECK.due("get(-4), deleted last", x.get(-4), left == 0 ? 0 : -5);
            CHECK.due("size()", x.size(), left);
            CHECK.due("pages()", x.pages(), 3 + 4 * left);
            CHECK.due("unflushed()", x.unflushed(), 10 - left);
        }
    }

    private static void deleteOfAKeyThatIsNotKept() {
        CHECK.sentence("Refused, 0: the key is not kept.");
        ExtendiblePages x = new ExtendiblePages(50);
        CHECK.due("delete(0) of an empty store", x.delete(0), 0);
        x.put(1, 1L);
        CHECK.due("delete(64), of the same hash", x.delete(64), 0);
        CHECK.due("delete(MIN)", x.delete(MIN), 0);
        CHECK.due("delete(MAX)", x.delete(MAX), 0);
        CHECK.due("unflushed() after the refusals", x.unflushed(), 1);
        CHECK.due("size() after the refusals", x.size(), 1);
        x.flush();
        x.put(2, 2L);
        x.crash(0);
        CHECK.due("delete(2), taken back by a crash", x.delete(2), 0);
        x.open();
        x.put(3, 3L);
        x.abandon();
        CHECK.due("delete(3), of an abandoned step", x.delete(3), 0);
        CHECK.due("delete(1)", x.delete(1), 1);
        CHECK.due("delete(1) again", x.delete(1), 0);
        CHECK.due("unflushed()", x.unflushed(), 1);
    }

    private static void deleteBecomesAStep() {
        CHECK.sentence("A batch is open: this becomes its next step, whether the key is kept or not;"
                + " answers 3.");
        ExtendiblePages x = new ExtendiblePages(50);
        x.put(1, 1L);
        x.open();
        CHECK.due("delete(1), kept", x.delete(1), 3);
        CHECK.due("delete(1), kept, again", x.delete(1), 3);
        CHECK.due("delete(2), not kept", x.delete(2), 3);
        CHECK.due("steps()", x.steps(), 3);
        CHECK.due("has(1) beside the steps", x.has(1), true);
        CHECK.due("unflushed() beside the steps", x.unflushed(), 1);
        CHECK.due("commit()", x.commit(), 4);
        CHECK.due("has(1)", x.has(1), false);
    }

    private static void deleteBeyondFiveSteps() {
        CHECK.sentence("Refused, 0: it has 5 steps.");
        ExtendiblePages x = new ExtendiblePages(50);
        x.put(1, 1L);
        x.open();
        for (int step = 1; step <= 5; step++) {
            CHECK.due("delete as step " + step, x.delete(-step), 3);
        }
        CHECK.due("delete(1) as a sixth step", x.delete(1), 0);
        CHECK.due("delete(2) as a sixth step", x.delete(2), 0);
        CHECK.due("steps()", x.steps(), 5);
        CHECK.due("commit()", x.commit(), 6);
        CHECK.due("has(1)", x.has(1), true);
    }

    // Promises 4 and 5

    private static void hasTellsWhatIsKept() {
        CHECK.sentence("Whether the key is kept.");
        ExtendiblePages x = new ExtendiblePages(50);
        int[] keys = {MIN, -1, 0, 64, MAX};
        for (int key : keys) {
            CHECK.due("has(" + key + ") of none", x.has(key), false);
        }
        for (int key : keys) {
            x.put(key, 0L);
        }
        for (int key : keys) {
            CHECK.due("has(" + key + "), whose value is 0", x.has(key), true);
        }
        for (int key : new int[] {MIN + 1, -2, 1, 63, 65, MAX - 1}) {
            CHECK.due("has(" + key + ") beside them", x.has(key), false);
        }
        x.delete(0);
        CHECK.due("has(0), deleted", x.has(0), false);
    }

    private static void getTellsTheValue() {
        CHECK.sentence("The value of the key");
        ExtendiblePages x = new ExtendiblePages(50);
        x.put(1, 10L);
        x.put(64, 20L);
        x.put(MIN, Long.MIN_VALUE);
        x.put(MAX, Long.MAX_VALUE);
        x.put(-1, -1L);
        CHECK.due("get(1)", x.get(1), 10);
        CHECK.due("get(64), of the same hash", x.get(64), 20);
        CHECK.due("get(MIN)", x.get(MIN), Long.MIN_VALUE);
        CHECK.due("get(MAX)", x.get(MAX), Long.MAX_VALUE);
        CHECK.due("get(-1)", x.get(-1), -1);
    }

    private static void getOfAKeyThatIsNotKept() {
        CHECK.sentence("0 when it is not kept.");
        ExtendiblePages x = new ExtendiblePages(50);
        CHECK.due("get(0) of none", x.get(0), 0);
        x.put(5, 9L);
        CHECK.due("get(4)", x.get(4), 0);
        CHECK.due("get(6)", x.get(6), 0);
        CHECK.due("get(MIN)", x.get(MIN), 0);
        CHECK.due("get(MAX)", x.get(MAX), 0);
        x.delete(5);
        CHECK.due("get(5), deleted", x.get(5), 0);
        x.put(5, 8L);
        x.crash(0);
        CHECK.due("get(5), taken back by a crash", x.get(5), 0);
    }

    // Promise 6

    private static void readsOnePageOfTheDirectory() {
        CHECK.sentence("1 of the directory");
        ExtendiblePages x = Stores.ofOneHash(200, 0, 4);
        CHECK.due("reads(0), 1 page of directory in use", x.reads(0), 2);
        x.put(32, 1L);
        CHECK.due("globalDepth()", x.globalDepth(), 6);
        CHECK.due("reads(0), 4 pages of directory in use", x.reads(0), 2);
        CHECK.due("reads(32), in the last page of it", x.reads(32), 2);
    }

    /** Keys of the hash 0, ascending, the lowest below 0: they stand in three pages. */
    private static int[] nineKeys() {
        int[] keys = new int[9];
        keys[0] = 0x80000002 ^ Keys.hash(0x80000002);
        for (int n = 1; n < 9; n++) {
            keys[n] = Keys.withHash(0, 2 * n);
        }
        return keys;
    }

    private static ExtendiblePages storeOf(int[] keys) {
        ExtendiblePages x = new ExtendiblePages(100);
        for (int n = keys.length - 1; n >= 0; n--) {
            x.put(keys[n], 1L);
        }
        return x;
    }

    private static void readsTheBucketOfTheKeyOnly() {
        CHECK.sentence("of the bucket to which its hash belongs");
        ExtendiblePages x = Stores.ofOneHash(100, 0, 9);
        for (int n = 0; n < 9; n++) {
            x.put(Keys.withHash(1, 10 + n), 1L);
        }
        CHECK.due("buckets()", x.buckets(), 2);
        CHECK.due("reads of the lowest of the upper bucket", x.reads(Keys.withHash(1, 10)), 2);
        CHECK.due("reads of the highest of the upper bucket", x.reads(Keys.withHash(1, 18)), 4);
        CHECK.due("reads of the highest of the lower bucket", x.reads(Keys.withHash(0, 8)), 4);
        CHECK.due("reads below the upper bucket, not kept", x.reads(Keys.withHash(1, 9)), 2);
        CHECK.due("reads above the lower bucket, not kept", x.reads(Keys.withHash(0, 9)), 4);
    }

    private static void readsUpToThePageThatHasTheKey() {
        CHECK.sentence("the pages from the first on up to the first one that has the key");
        int[] keys = nineKeys();
        ExtendiblePages x = storeOf(keys);
        CHECK.due("keys of one hash stand in one bucket", x.buckets(), 1);
        for (int n = 0; n < 9; n++) {
            CHECK.due("reads of key number " + n, x.reads(keys[n]), 2 + n / 4);
        }
        x.delete(keys[0]);
        for (int n = 1; n < 9; n++) {
            CHECK.due("reads of it without the first", x.reads(keys[n]), 2 + (n - 1) / 4);
        }
        x = Stores.ofOneHash(100, 44, 60);
        CHECK.due("reads of the 60th key", x.reads(Keys.withHash(44, 59)), 1 + 15);
        CHECK.due("reads of the 57th key", x.reads(Keys.withHash(44, 56)), 1 + 15);
        CHECK.due("reads of the 56th key", x.reads(Keys.withHash(44, 55)), 1 + 14);
    }

    private static void readsUpToThePageWhoseLastKeyIsAbove() {
        CHECK.sentence("or whose last key is above it");
        int[] keys = nineKeys();
        ExtendiblePages x = storeOf(keys);
        CHECK.due("reads(MIN), below all", x.reads(MIN), 2);
        CHECK.due("reads within page 1", x.reads(keys[1] + 1), 2);
        CHECK.due("reads one below the last key of page 1", x.reads(keys[3] - 1), 2);
        CHECK.due("reads one above the last key of page 1", x.reads(keys[3] + 1), 3);
        CHECK.due("reads one below the first key of page 2", x.reads(keys[4] - 1), 3);
        CHECK.due("reads one below the last key of page 2", x.reads(keys[7] - 1), 3);
        CHECK.due("reads one above the last key of page 2", x.reads(keys[7] + 1), 4);
        x = Stores.ofOneHash(100, 1, 4);
        x.put(0x7fffffc0, 1L);
        CHECK.due("keys of one hash stand in one bucket", x.buckets(), 1);
        CHECK.due("reads(MIN), below all by more than an int", x.reads(MIN), 2);
    }

    private static void readsUpToTheLastPage() {
        CHECK.sentence("or that is the last page of the bucket");
        CHECK.due("reads(1) of an empty store", new ExtendiblePages(50).reads(1), 2);
        int[] keys = nineKeys();
        ExtendiblePages x = storeOf(keys);
        CHECK.due("reads above all of 9 keys", x.reads(keys[8] + 1), 4);
        CHECK.due("reads(MAX) of 9 keys", x.reads(MAX), 4);
        x.delete(keys[8]);
        CHECK.due("reads(MAX) above a full last page", x.reads(MAX), 3);
        for (int n = 7; n >= 4; n--) {
            x.delete(keys[n]);
        }
        CHECK.due("reads(MAX) above one full page", x.reads(MAX), 2);
        x = Stores.ofOneHash(50, 0, 4);
        x.put(2, 1L);
        CHECK.due("reads(1) of a bucket without keys", x.reads(1), 2);
        CHECK.due("reads(MAX) of a bucket with one key", x.reads(Keys.withHash(2, 9)), 2);
    }

    private static void readsTheValueOfAKeptKey() {
        CHECK.sentence("when the key is kept, the pages of its value, if it has any");
        long[] values = {0L, 65535L, 65536L, (1L << 32) - 1, 1L << 32, (1L << 48) - 1, 1L << 48,
            Long.MAX_VALUE, -1L, Long.MIN_VALUE};
        int[] due = {0, 0, 2, 2, 3, 3, 4, 4, 4, 4};
        ExtendiblePages x = new ExtendiblePages(50);
        for (int i = 0; i < values.length; i++) {
            x.put(1, values[i]);
            CHECK.due("reads(1) with the value " + values[i], x.reads(1), 2 + due[i]);
            CHECK.due("reads(64), not kept, beside it", x.reads(64), 2);
        }
        x.delete(1);
        CHECK.due("reads(1), deleted", x.reads(1), 2);
        int[] keys = nineKeys();
        x = storeOf(keys);
        x.put(keys[8], FOUR_PAGES);
        CHECK.due("reads of a key of page 3 with 4 pages", x.reads(keys[8]), 1 + 3 + 4);
    }
}
