/** Promises 14 to 20: size, pages, globalDepth, localDepth, buckets, bucketAt, keyAt. */
public final class BucketsTest {
    private static final Check CHECK = new Check("BucketsTest");

    public static void main(String[] args) {
        sizeCountsKeys();
        fourKeysAreGoodAndFiveAreNot();
        keysOfOneHashAreGood();
        everyPartOfAKeyCountsForItsHash();
        pagesOfTheDirectory();
        bucketsMergeAgain();
        placesAscendWhateverTheirDepths();
        keysAreCountedThroughTheBuckets();
        numbersOutOfRange();
        CHECK.finish();
    }

    private static void sizeCountsKeys() {
        ExtendiblePages x = new ExtendiblePages(50);
        x.put(1, 1L);
        x.put(1, 2L);
        x.put(-1, 1L);
        CHECK.due("size()", x.size(), 2);
        x.delete(5);
        CHECK.due("size() after a refused delete", x.size(), 2);
        x.delete(1);
        CHECK.due("size() after a delete", x.size(), 1);
    }

    private static void fourKeysAreGoodAndFiveAreNot() {
        ExtendiblePages x = new ExtendiblePages(50);
        for (int key = 0; key < 4; key++) {
            x.put(key, 1L);
        }
        CHECK.due("globalDepth() of 4 keys", x.globalDepth(), 0);
        CHECK.due("buckets() of 4 keys", x.buckets(), 1);
        CHECK.due("pages() of 4 keys", x.pages(), 3);
        x.put(4, 1L);
        CHECK.due("globalDepth() of 5 keys", x.globalDepth(), 1);
        CHECK.due("buckets() of 5 keys", x.buckets(), 2);
        CHECK.due("pages() of 5 keys", x.pages(), 4);
        CHECK.due("localDepth(99), not kept", x.localDepth(99), 1);
    }

    private static void keysOfOneHashAreGood() {
        ExtendiblePages x = new ExtendiblePages(100);
        for (int n = 0; n < 9; n++) {
            x.put(Keys.withHash(22, n), 1L);
        }
        CHECK.due("buckets() of one hash", x.buckets(), 1);
        CHECK.due("pages() of one hash", x.pages(), 5);
        x.put(Keys.withHash(30, 0), 1L);
        CHECK.due("globalDepth() with a hash that differs in bit 3", x.globalDepth(), 4);
        CHECK.due("buckets()", x.buckets(), 5);
        CHECK.due("pages()", x.pages(), 1 + 1 + 3 + 4);
        CHECK.due("localDepth of the nine", x.localDepth(22), 4);
        CHECK.due("localDepth of the tenth", x.localDepth(30), 4);
        CHECK.due("localDepth(2)", x.localDepth(2), 3);
        CHECK.due("localDepth(0)", x.localDepth(0), 2);
        CHECK.due("localDepth(1)", x.localDepth(1), 1);
    }

    private static void everyPartOfAKeyCountsForItsHash() {
        for (int bit = 0; bit < 32; bit++) {
            ExtendiblePages x = new ExtendiblePages(200);
            for (int n = 0; n < 5; n++) {
                x.put(Keys.withHash(0, n), 1L);
            }
            x.put(1 << bit, 1L);
            CHECK.due("globalDepth() with key 1 << " + bit, x.globalDepth(), bit % 6 + 1);
            CHECK.due("localDepth of 1 << " + bit, x.localDepth(1 << bit), bit % 6 + 1);
        }
    }

    private static void pagesOfTheDirectory() {
        int[] due = {1, 1, 1, 1, 1, 2, 4};
        for (int depth = 1; depth <= 6; depth++) {
            ExtendiblePages x = new ExtendiblePages(200);
            for (int n = 0; n < 4; n++) {
                x.put(Keys.withHash(0, n), 1L);
            }
            x.put(1 << depth - 1, 1L);
            CHECK.due("globalDepth()", x.globalDepth(), depth);
            CHECK.due("buckets() at depth " + depth, x.buckets(), depth + 1);
            CHECK.due("pages() at depth " + depth, x.pages(), 1 + due[depth] + depth + 1);
        }
    }

    private static void bucketsMergeAgain() {
        ExtendiblePages x = new ExtendiblePages(200);
        for (int key = 0; key < 32; key++) {
            x.put(key, 1L);
        }
        CHECK.due("buckets() of 32 keys", x.buckets(), 8);
        for (int key = 31; key >= 17; key--) {
            x.delete(key);
        }
        CHECK.due("buckets() of 17 keys", x.buckets(), 5);
        CHECK.due("globalDepth() of 17 keys", x.globalDepth(), 3);
        x.delete(16);
        CHECK.due("buckets() of 16 keys", x.buckets(), 4);
        CHECK.due("globalDepth() of 16 keys", x.globalDepth(), 2);
        for (int key = 15; key >= 4; key--) {
            x.delete(key);
        }
        CHECK.due("buckets() of 4 keys", x.buckets(), 1);
        CHECK.due("localDepth(1) of 4 keys", x.localDepth(1), 0);
        CHECK.due("pages() of 4 keys", x.pages(), 3);
    }

    private static void placesAscendWhateverTheirDepths() {
        ExtendiblePages x = new ExtendiblePages(200);
        for (int n = 0; n < 4; n++) {
            x.put(Keys.withHash(0, n), 1L);
        }
        x.put(32, 1L);
        int[] due = {0, 1, 2, 4, 8, 16, 32, -1};
        int[] depths = {6, 1, 2, 3, 4, 5, 6};
        CHECK.due("buckets()", x.buckets(), 7);
        for (int i = 0; i < due.length; i++) {
            CHECK.due("bucketAt(" + i + ")", x.bucketAt(i), due[i]);
        }
        for (int i = 0; i < depths.length; i++) {
            CHECK.due("localDepth(" + due[i] + ")", x.localDepth(due[i]), depths[i]);
        }
    }

    private static void keysAreCountedThroughTheBuckets() {
        ExtendiblePages x = new ExtendiblePages(200);
        // Their hashes are 2 1 6 0 2 4 1: five even ones, which make two buckets of depth 2.
        int[] keys = {2, 1, 6, 0, 0x80000000, 4, 64};
        for (int key : keys) {
            x.put(key, 1L);
        }
        int[] due = {0, 4, 1, 64, 0x80000000, 2, 6};
        CHECK.due("bucketAt(0)", x.bucketAt(0), 0);
        CHECK.due("bucketAt(1)", x.bucketAt(1), 1);
        CHECK.due("bucketAt(2)", x.bucketAt(2), 2);
        for (int i = 0; i < due.length; i++) {
            CHECK.due("keyAt(" + i + ")", x.keyAt(i), due[i]);
        }
        CHECK.due("keyAt(7)", x.keyAt(7), 0);
    }

    private static void numbersOutOfRange() {
        ExtendiblePages x = new ExtendiblePages(200);
        for (int key = 1; key <= 5; key++) {
            x.put(key, 1L);
        }
        for (int i : new int[] {Integer.MIN_VALUE, -1, 2, 64, 65, Integer.MAX_VALUE}) {
            CHECK.due("bucketAt(" + i + ")", x.bucketAt(i), ExtendiblePages.NONE);
        }
        for (int i : new int[] {Integer.MIN_VALUE, -1, 5, 64, 65, Integer.MAX_VALUE}) {
            CHECK.due("keyAt(" + i + ")", x.keyAt(i), 0);
        }
    }
}
