/** Promises 14 to 20, sentence by sentence: size, pages, depths, buckets, bucketAt, keyAt. */
public final class BucketsTest {
    private static final int MIN = Integer.MIN_VALUE;
    private static final int MAX = Integer.MAX_VALUE;
    private static final int NONE = ExtendiblePages.NONE;
    private static final Check CHECK = new Check("BucketsTest");

    public static void main(String[] args) {
        sizeCountsKeys();
        pagesCountsAll();
        globalDepthDoublesAndHalves();
        localDepthOfAnyKey();
        bucketsAreCounted();
        bucketAtAscends();
        bucketAtOfNone();
        keyAtGoesThroughTheBuckets();
        keyAtAscendsInABucket();
        keyAtOfNone();
        CHECK.finish();
    }

    private static void sizeCountsKeys() {
        CHECK.sentence("How many keys are kept.");
        ExtendiblePages x = new ExtendiblePages(50);
        CHECK.due("size() of a new object", x.size(), 0);
        x.put(1, 1L);
        x.put(1, 2L);
        x.put(-1, 1L);
        CHECK.due("size() of two keys, one put twice", x.size(), 2);
        x.delete(5);
        CHECK.due("size() after a refused delete", x.size(), 2);
        x.delete(1);
        CHECK.due("size() after a delete", x.size(), 1);
        x.delete(-1);
        CHECK.due("size() when empty again", x.size(), 0);
        x = Stores.ofOneHash(200, 4, 61);
        CHECK.due("size() after 61 puts", x.size(), 60);
    }

    private static void pagesCountsAll() {
        CHECK.sentence("How many pages are in use.");
        ExtendiblePages x = Stores.ofOneHash(100, 0, 6);
        x.put(0, -1L);
        x.put(Keys.withHash(0, 5), 1L << 40);
        // A header, 2 of directory, 7 of six buckets (one has two), 4 and 3 of values.
        x.put(16, 300L);
        CHECK.due("globalDepth()", x.globalDepth(), 5);
        CHECK.due("pages()", x.pages(), 1 + 2 + 7 + 4 + 3);
        x.delete(16);
        CHECK.due("pages() after a delete", x.pages(), 1 + 1 + 2 + 4 + 3);
        CHECK.due("pages() of the smallest store when full", Stores.full(8).pages(), 8);
        CHECK.due("pages() of the largest store when full", Stores.full(200).pages(), 200);
    }

    private static void globalDepthDoublesAndHalves() {
        CHECK.sentence("The global depth.");
        ExtendiblePages x = Stores.ofOneHash(200, 0, 4);
        CHECK.due("globalDepth() of 4 keys", x.globalDepth(), 0);
        for (int bit = 0; bit < 6; bit++) {
            x.put(1 << bit, 1L);
            CHECK.due("globalDepth() with " + (1 << bit), x.globalDepth(), bit + 1);
        }
        for (int bit = 5; bit >= 0; bit--) {
            x.delete(1 << bit);
            CHECK.due("globalDepth() without " + (1 << bit), x.globalDepth(), bit);
        }
    }

    private static void localDepthOfAnyKey() {
        CHECK.sentence("The depth of the bucket to which the hash of the key belongs, whether the key"
                + " is kept or not.");
        ExtendiblePages x = new ExtendiblePages(200);
        CHECK.due("localDepth(MIN) of a new object", x.localDepth(MIN), 0);
        CHECK.due("localDepth(MAX) of a new object", x.localDepth(MAX), 0);
        x = Stores.ofOneHash(200, 0, 4);
        x.put(32, 1L);
        int[] places = {0, 32, 16, 8, 4, 2, 1};
        int[] depths = {6, 6, 5, 4, 3, 2, 1};
        for (int i = 0; i < places.length; i++) {
            CHECK.due("localDepth(" + places[i] + ")", x.localDepth(places[i]), depths[i]);
            int other = Keys.withHash(places[i], 99);
            CHECK.due("has(" + other + ")", x.has(other), false);
            CHECK.due("localDepth of it, not kept", x.localDepth(other), depths[i]);
        }
        // Their hashes are 2, 62 and 60.
        CHECK.due("localDepth(MIN)", x.localDepth(MIN), 2);
        CHECK.due("localDepth(MAX)", x.localDepth(MAX), 2);
        CHECK.due("localDepth(-1)", x.localDepth(-1), 3);
    }

    private static void bucketsAreCounted() {
        CHECK.sentence("How many buckets there are.");
        ExtendiblePages x = new ExtendiblePages(200);
        CHECK.due("buckets() of a new object", x.buckets(), 1);
        for (int key = 0; key < 32; key++) {
            x.put(key, 1L);
        }
        CHECK.due("buckets() of 32 keys", x.buckets(), 8);
        for (int key = 31; key >= 17; key--) {
            x.delete(key);
        }
        CHECK.due("buckets() of 17 keys", x.buckets(), 5);
        x.delete(16);
        CHECK.due("buckets() of 16 keys", x.buckets(), 4);
        for (int key = 15; key >= 5; key--) {
            x.delete(key);
        }
        CHECK.due("buckets() of 5 keys", x.buckets(), 2);
        x.delete(4);
        CHECK.due("buckets() of 4 keys", x.buckets(), 1);
        x = Stores.ofOneHash(200, 0, 4);
        x.put(32, 1L);
        CHECK.due("buckets(), five of them without keys", x.buckets(), 7);
        x = Stores.ofOneHash(200, 63, 4);
        x.put(31, 1L);
        CHECK.due("buckets(), the last at the place 63", x.buckets(), 7);
    }

    private static void bucketAtAscends() {
        CHECK.sentence("The place of bucket number i, the buckets counted 0, 1, .. in the ascending"
                + " order of their places");
        CHECK.due("bucketAt(0) of a new object", new ExtendiblePages(50).bucketAt(0), 0);
        ExtendiblePages x = Stores.ofOneHash(200, 0, 4);
        x.put(32, 1L);
        int[] due = {0, 1, 2, 4, 8, 16, 32};
        for (int i = 0; i < due.length; i++) {
            CHECK.due("bucketAt(" + i + ")", x.bucketAt(i), due[i]);
        }
        x = Stores.ofOneHash(200, 63, 4);
        x.put(31, 1L);
        int[] odd = {0, 1, 3, 7, 15, 31, 63};
        for (int i = 0; i < odd.length; i++) {
            CHECK.due("bucketAt(" + i + ")", x.bucketAt(i), odd[i]);
        }
    }

    private static void bucketAtOfNone() {
        CHECK.sentence("NONE when there is none.");
        ExtendiblePages x = new ExtendiblePages(200);
        for (int i : new int[] {MIN, -1, 1, 2, 63, 64, MAX}) {
            CHECK.due("bucketAt(" + i + ") of one", x.bucketAt(i), NONE);
        }
        for (int key = 1; key <= 5; key++) {
            x.put(key, 1L);
        }
        CHECK.due("bucketAt(1) of two", x.bucketAt(1), 1);
        for (int i : new int[] {MIN, MIN + 1, -2, -1, 2, 3, 63, 64, 65, MAX - 1, MAX}) {
            CHECK.due("bucketAt(" + i + ") of two", x.bucketAt(i), NONE);
        }
        x.delete(1);
        CHECK.due("bucketAt(1) of one again", x.bucketAt(1), NONE);
    }

    private static void keyAtGoesThroughTheBuckets() {
        CHECK.sentence("The key number i, counted 0, 1, .. through the buckets in the ascending order"
                + " of their places");
        ExtendiblePages x = new ExtendiblePages(200);
        // Their hashes are 2 1 6 0 2 4 1: five even ones, which make two buckets of depth 2.
        int[] keys = {2, 1, 6, 0, MIN, 4, 64};
        for (int key : keys) {
            x.put(key, 1L);
        }
        int[] due = {0, 4, 1, 64, MIN, 2, 6};
        for (int i = 0; i < due.length; i++) {
            CHECK.due("keyAt(" + i + ")", x.keyAt(i), due[i]);
        }
        // Buckets without keys stand between those of the places 0 and 32.
        x = Stores.ofOneHash(200, 0, 4);
        x.put(32, 1L);
        CHECK.due("keyAt(3), the last of the first bucket", x.keyAt(3), Keys.withHash(0, 3));
        CHECK.due("keyAt(4), of the last bucket", x.keyAt(4), 32);
    }

    private static void keyAtAscendsInABucket() {
        CHECK.sentence("and in each bucket in ascending order");
        ExtendiblePages x = new ExtendiblePages(200);
        for (int key : new int[] {MAX, 0, MIN, -1}) {
            x.put(key, 1L);
        }
        int[] due = {MIN, -1, 0, MAX};
        for (int i = 0; i < due.length; i++) {
            CHECK.due("keyAt(" + i + ")", x.keyAt(i), due[i]);
        }
        x = new ExtendiblePages(200);
        for (int n = 59; n >= 0; n--) {
            x.put(Keys.withHash(7, n), 1L);
        }
        for (int i = 0; i < 60; i++) {
            CHECK.due("keyAt(" + i + ") of 60", x.keyAt(i), Keys.withHash(7, i));
        }
    }

    private static void keyAtOfNone() {
        CHECK.sentence("0 when there is none.");
        CHECK.due("keyAt(0) of a new object", new ExtendiblePages(50).keyAt(0), 0);
        ExtendiblePages x = new ExtendiblePages(200);
        for (int key = 1; key <= 5; key++) {
            x.put(key, 1L);
        }
        CHECK.due("keyAt(4) of 5 keys", x.keyAt(4), 5);
        for (int i : new int[] {MIN, MIN + 1, -2, -1, 5, 6, 59, 60, 64, 65, MAX - 1, MAX}) {
            CHECK.due("keyAt(" + i + ") of 5 keys", x.keyAt(i), 0);
        }
        x.delete(5);
        CHECK.due("keyAt(4) after a delete", x.keyAt(4), 0);
        x = Stores.ofOneHash(200, 7, 60);
        CHECK.due("keyAt(59) of 60 keys", x.keyAt(59), Keys.withHash(7, 59));
        CHECK.due("keyAt(60) of 60 keys", x.keyAt(60), 0);
        CHECK.due("keyAt(-1) of 60 keys", x.keyAt(-1), 0);
    }
}
