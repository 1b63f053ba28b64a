/** The document's "What it is" and "Terms", sentence by sentence. */
public final class TermsTest {
    private static final int MIN = Integer.MIN_VALUE;
    private static final int MAX = Integer.MAX_VALUE;
    private static final Check CHECK = new Check("TermsTest");

    public static void main(String[] args) {
        theLastOf512Calls();
        callsBeyond512End();
        hashOfAKey();
        classesOfEveryDepth();
        fourKeysAreGoodAndFiveAreNot();
        onlyKeptKeysCountForGood();
        keysOfOneHashAreGood();
        bucketsStandBelowClassesThatAreNotGood();
        everyHashHasOneBucket();
        bucketsHaveTheirKeys();
        globalDepthIsTheGreatest();
        pagesOfTheHeader();
        pagesOfTheDirectory();
        pagesOfABucket();
        pagesOfABucketWithoutKeys();
        keysOfABucketAscend();
        pagesOfAValue();
        bytesOfAValueBelowZero();
        bytesOfAnyOtherValue();
        recordsStandInOrder();
        putOrDeleteBeyond64Records();
        commitBeyond64Records();
        onlyOlderRecordsAreFlushed();
        atMost60Keys();
        atMostThePagesOfTheStore();
        stepsChangeNothingThatIsKept();
        atMost5Steps();
        questionsLeaveStepsOut();
        CHECK.finish();
    }

    private static void theLastOf512Calls() {
        CHECK.sentence("An object is used for at most 512 calls after it has been made");
        ExtendiblePages x = Stores.withRecords(50, 510);
        CHECK.due("put, the 511th call", x.put(1, 511L), 2);
        // 7 times 64 records are flushed and 63 are not.
        CHECK.due("crash(0), the 512th call", x.crash(0), 63);
        x = new ExtendiblePages(200);
        for (int call = 1; call <= 511; call++) {
            x.put(call % 60, call);
        }
        CHECK.due("get(31), the 512th call", x.get(31), 511);
    }

    /** No answer is looked at here: all that is due is that every call ends and none throws. */
    private static void callsBeyond512End() {
        CHECK.sentence("what later calls answer is free");
        ExtendiblePages x = new ExtendiblePages(200);
        for (int call = 0; call < 3000; call++) {
            x.put(call * 977 % 90, call);
            x.delete(call * 31 % 90);
            if (call % 3 == 0) {
                x.open();
            } else if (call % 7 == 0) {
                x.commit();
            }
            if (call % 100 == 0) {
                Stores.answers(x);
                x.reads(call);
                x.localDepth(call);
                x.crash(call % 64);
            }
        }
        x.abandon();
        x.flush();
    }

    private static void hashOfAKey() {
        CHECK.sentence("The HASH of a key is (key ^ key >>> 6 ^ key >>> 12 ^ key >>> 18 ^ key >>> 24"
                + " ^ key >>> 30) & 63, six bits.");
        int[] keys = {0, 1, 32, 63, 64, 65, 1 << 11, 1 << 12, 1 << 17, 1 << 18, 1 << 23, 1 << 24,
            1 << 29, 1 << 30, MIN, MAX, -1, -64, 0x3f000000, 0xc0000000};
        int[] hashes = {0, 1, 32, 63, 1, 0, 32, 1, 32, 1, 32, 1, 32, 1, 2, 62, 60, 3, 63, 3};
        for (int i = 0; i < keys.length; i++) {
            for (int hash = 0; hash < 64; hash++) {
                // Five keys of the hash and the key make one bucket if it has the same hash, only.
                ExtendiblePages x = Stores.ofOneHash(200, hash, 5);
                x.put(keys[i], 1L);
                CHECK.due("buckets() == 1 of the hash " + hash + " with the key " + keys[i],
                        x.buckets() == 1, hash == hashes[i]);
            }
        }
    }

    private static void classesOfEveryDepth() {
        CHECK.sentence("For d from 0 to 6 and p from 0 to 2^d - 1 the CLASS (d, p) is all hashes whose"
                + " lowest d bits are p.");
        ExtendiblePages x = Stores.ofOneHash(50, 63, 3);
        CHECK.due("bucketAt(0), of depth 0", x.bucketAt(0), 0);
        CHECK.due("bucketAt(1), beside depth 0", x.bucketAt(1), -1);
        for (int depth = 1; depth <= 6; depth++) {
            int last = (1 << depth) - 1;
            x = Stores.ofOneHash(200, last, 3);
            x.put(Keys.withHash(63, 9), 1L);
            x.put(Keys.withHash(last >> 1, 0), 1L);
            CHECK.due("localDepth of hash " + last, x.localDepth(last), depth);
            CHECK.due("localDepth of hash 63", x.localDepth(63), depth);
            CHECK.due("localDepth of hash " + (last >> 1), x.localDepth(last >> 1), depth);
            CHECK.due("bucketAt(0) at depth " + depth, x.bucketAt(0), 0);
            CHECK.due("the last place at depth " + depth, x.bucketAt(depth), last);
            CHECK.due("a place behind it", x.bucketAt(depth + 1), -1);
            CHECK.due("keyAt(4), with the hash 63", x.keyAt(4), Keys.withHash(63, 9));
        }
    }

    private static void fourKeysAreGoodAndFiveAreNot() {
        CHECK.sentence("It is GOOD when at most 4 of the keys that are kept have a hash in it");
        ExtendiblePages x = new ExtendiblePages(50);
        for (int key = 0; key < 4; key++) {
            x.put(key, 1L);
            CHECK.due("buckets() with the keys up to " + key, x.buckets(), 1);
        }
        x.put(5, 1L);
        CHECK.due("buckets() of 5 keys", x.buckets(), 2);
        CHECK.due("globalDepth() of 5 keys", x.globalDepth(), 1);
        x.put(4, 1L);
        x.put(7, 1L);
        CHECK.due("buckets() of 3 even and 4 odd keys", x.buckets(), 2);
        x.put(9, 1L);
        CHECK.due("buckets() of 3 even and 5 odd keys", x.buckets(), 3);
        CHECK.due("localDepth(0)", x.localDepth(0), 1);
        CHECK.due("localDepth(1)", x.localDepth(1), 2);
    }

    private static void onlyKeptKeysCountForGood() {
        CHECK.sentence("of the keys that are kept");
        ExtendiblePages x = new ExtendiblePages(8);
        x.put(0, 65536L);
        for (int key = 1; key < 4; key++) {
            x.put(key, 1L);
        }
        x.flush();
        x.open();
        x.put(4, 1L);
        CHECK.due("buckets() with a fifth key in a step", x.buckets(), 1);
        x.abandon();
        CHECK.due("put(4, -1), too many pages", x.put(4, -1L), 0);
        CHECK.due("buckets() with a fifth key refused", x.buckets(), 1);
        x.put(4, 1L);
        CHECK.due("buckets() with a fifth key", x.buckets(), 2);
        x.crash(0);
        CHECK.due("buckets() with a fifth key taken back", x.buckets(), 1);
        x.put(4, 1L);
        x.delete(0);
        CHECK.due("buckets() with a key deleted", x.buckets(), 1);
    }

    private static void keysOfOneHashAreGood() {
        CHECK.sentence("or when all of those that do have the same hash");
        for (int hash = 0; hash < 64; hash += 21) {
            ExtendiblePages x = new ExtendiblePages(100);
            for (int n = 0; n < 60; n++) {
                x.put(Keys.withHash(hash, n), 1L);
                CHECK.due("buckets() of " + (n + 1) + " keys of hash " + hash, x.buckets(), 1);
            }
            x.delete(Keys.withHash(hash, 3));
            x.put(Keys.withHash(hash ^ 8, 3), 1L);
            CHECK.due("globalDepth() with a hash that differs in bit 3", x.globalDepth(), 4);
            CHECK.due("buckets() with it", x.buckets(), 5);
            CHECK.due("localDepth of the 59 keys", x.localDepth(hash), 4);
            CHECK.due("localDepth of the other", x.localDepth(hash ^ 8), 4);
            x.delete(Keys.withHash(hash ^ 8, 3));
            CHECK.due("buckets() of one hash again", x.buckets(), 1);
        }
        ExtendiblePages x = Stores.ofOneHash(100, 0, 5);
        x.put(32, 1L);
        CHECK.due("localDepth(0) of 5 keys at depth 6", x.localDepth(0), 6);
        x.put(Keys.withHash(32, 1), 1L);
        x.delete(32);
        CHECK.due("localDepth(0) beside one of two deleted", x.localDepth(0), 6);
        x.delete(Keys.withHash(32, 1));
        CHECK.due("localDepth(0) beside both deleted", x.localDepth(0), 0);
    }

    private static void bucketsStandBelowClassesThatAreNotGood() {
        CHECK.sentence("A class (d, p) is a BUCKET of DEPTH d and PLACE p when it is good and either d"
                + " is 0 or the class (d - 1, p mod 2^(d - 1)), which contains it, is not good.");
        ExtendiblePages x = Stores.ofOneHash(100, 40, 4);
        CHECK.due("buckets(), depth 0 is good", x.buckets(), 1);
        CHECK.due("localDepth(40), depth 0 is good", x.localDepth(40), 0);
        x.put(1, 1L);
        CHECK.due("buckets(), depth 0 is not good", x.buckets(), 2);
        CHECK.due("localDepth(40), the 4 are good", x.localDepth(40), 1);
        CHECK.due("localDepth(2), in the same bucket", x.localDepth(2), 1);
        CHECK.due("bucketAt(2)", x.bucketAt(2), -1);
        x.put(8, 1L);
        CHECK.due("buckets(), not good down to depth 5", x.buckets(), 7);
        CHECK.due("localDepth(40)", x.localDepth(40), 6);
        CHECK.due("localDepth(24), beside depth 5", x.localDepth(24), 5);
        CHECK.due("localDepth(0), beside depth 4", x.localDepth(0), 4);
        CHECK.due("localDepth(4), beside depth 3", x.localDepth(4), 3);
        CHECK.due("localDepth(2), beside depth 2", x.localDepth(2), 2);
        CHECK.due("localDepth(1), beside depth 1", x.localDepth(1), 1);
        CHECK.due("bucketAt(6), the place of depth 6", x.bucketAt(6), 40);
    }

    private static void everyHashHasOneBucket() {
        CHECK.sentence("(So every hash belongs to exactly one bucket, whatever the keys are.)");
        eachHashIsInOneBucket(new ExtendiblePages(200));
        eachHashIsInOneBucket(Stores.ofOneHash(200, 33, 60));
        ExtendiblePages pairs = new ExtendiblePages(200);
        ExtendiblePages deep = new ExtendiblePages(200);
        for (int n = 0; n < 60; n++) {
            pairs.put(n, 1L);
            deep.put(Keys.withHash(32 * (n % 2) + n % 5, n), 1L);
        }
        CHECK.due("size() of many hashes", pairs.size(), 60);
        CHECK.due("globalDepth() of pairs that differ in bit 5", deep.globalDepth(), 6);
        eachHashIsInOneBucket(pairs);
        eachHashIsInOneBucket(deep);
    }

    private static void eachHashIsInOneBucket(ExtendiblePages x) {
        int[] seen = new int[64];
        int buckets = x.buckets();
        for (int i = 0; i < buckets; i++) {
            int place = x.bucketAt(i);
            int step = 1 << x.localDepth(place);
            CHECK.due("the place " + place + " is below 2^d", place >= 0 && place < step, true);
            for (int hash = place & 63; hash < 64; hash += step) {
                seen[hash]++;
                CHECK.due("localDepth of hash " + hash, 1 << x.localDepth(hash), step);
            }
        }
        for (int hash = 0; hash < 64; hash++) {
            CHECK.due("buckets of the hash " + hash, seen[hash], 1);
        }
    }

    private static void bucketsHaveTheirKeys() {
        CHECK.sentence("Its keys are the keys that are kept and whose hash is in it.");
        ExtendiblePages x = new ExtendiblePages(50);
        int[] keys = {1, 3, 64, 5, 0};
        for (int key : keys) {
            x.put(key, 1L);
        }
        // 64 has the hash 1, though its own lowest bit is 0.
        CHECK.due("keyAt(0), alone in its bucket", x.keyAt(0), 0);
        CHECK.due("keyAt(4)", x.keyAt(4), 64);
        x.delete(0);
        x.put(65, 1L);
        // 65 has the hash 0, though its own lowest bit is 1.
        CHECK.due("keyAt(0), in place of a deleted one", x.keyAt(0), 65);
        CHECK.due("keyAt(1)", x.keyAt(1), 1);
        CHECK.due("keyAt(5)", x.keyAt(5), 0);
    }

    private static void globalDepthIsTheGreatest() {
        CHECK.sentence("The GLOBAL DEPTH is the greatest depth of a bucket, g; the DIRECTORY has 2^g"
                + " cells.");
        CHECK.due("globalDepth() of no keys", new ExtendiblePages(50).globalDepth(), 0);
        for (int hash = 0; hash < 64; hash++) {
            ExtendiblePages x = Stores.ofOneHash(200, hash, 4);
            x.put(Keys.withHash(hash ^ 32, 0), 1L);
            CHECK.due("globalDepth() with 4 keys of hash " + hash, x.globalDepth(), 6);
            x.delete(Keys.withHash(hash, 0));
            CHECK.due("globalDepth() with 3 of them", x.globalDepth(), 0);
            x.put(Keys.withHash(hash ^ 1, 0), 1L);
            CHECK.due("globalDepth() with a hash that differs in bit 0", x.globalDepth(), 1);
        }
    }

    private static void pagesOfTheHeader() {
        CHECK.sentence("1 for a header");
        ExtendiblePages x = new ExtendiblePages(50);
        CHECK.due("pages() of header, directory and bucket", x.pages(), 3);
        x.put(1, 1L);
        x.delete(1);
        CHECK.due("pages() when empty again", x.pages(), 3);
    }

    private static void pagesOfTheDirectory() {
        CHECK.sentence("1 for every 16 cells of the directory that are begun");
        int[] due = {1, 1, 1, 1, 1, 2, 4};
        for (int depth = 1; depth <= 6; depth++) {
            ExtendiblePages x = Stores.ofOneHash(200, 0, 4);
            x.put(1 << depth - 1, 1L);
            CHECK.due("globalDepth()", x.globalDepth(), depth);
            CHECK.due("buckets() at depth " + depth, x.buckets(), depth + 1);
            CHECK.due("pages() at depth " + depth, x.pages(), 1 + due[depth] + depth + 1);
        }
    }

    private static void pagesOfABucket() {
        CHECK.sentence("for every bucket 1 for every 4 of its keys that are begun");
        int[] keys = {1, 2, 3, 4, 5, 7, 8, 9, 12, 13, 16, 17, 56, 57, 59, 60};
        int[] due = {1, 1, 1, 1, 2, 2, 2, 3, 3, 4, 4, 5, 14, 15, 15, 15};
        for (int i = 0; i < keys.length; i++) {
            int pages = Stores.ofOneHash(200, 17, keys[i]).pages();
            CHECK.due("pages() of a bucket of " + keys[i] + " keys", pages, 2 + due[i]);
        }
        ExtendiblePages x = Stores.ofOneHash(200, 0, 5);
        for (int n = 0; n < 9; n++) {
            x.put(Keys.withHash(1, n), 1L);
        }
        CHECK.due("pages() of buckets of 5 and 9 keys", x.pages(), 2 + 2 + 3);
    }

    private static void pagesOfABucketWithoutKeys() {
        CHECK.sentence("and 1 when it has none");
        CHECK.due("pages() without a key", new ExtendiblePages(50).pages(), 3);
        ExtendiblePages x = Stores.ofOneHash(50, 0, 4);
        x.put(2, 1L);
        CHECK.due("buckets(), one of them without keys", x.buckets(), 3);
        CHECK.due("pages(), with its page", x.pages(), 2 + 3);
        x.put(1, 1L);
        CHECK.due("pages(), with a key in that page", x.pages(), 2 + 3);
    }

    private static void keysOfABucketAscend() {
        CHECK.sentence("(its keys stand in ascending order, four to a page)");
        ExtendiblePages x = new ExtendiblePages(50);
        // All have the hash 2: it takes no difference of two of them to overflow unseen.
        int[] keys = {0x7fffffc0 ^ Keys.hash(0x7fffffc0) ^ 2, 66 ^ 1, 2, -64 ^ 3 ^ 2, MIN};
        for (int key : keys) {
            CHECK.due("the hash of " + key, Keys.hash(key), 2);
            x.put(key, 1L);
        }
        for (int i = 0; i < keys.length; i++) {
            CHECK.due("keyAt(" + i + ")", x.keyAt(i), keys[keys.length - 1 - i]);
        }
        CHECK.due("reads of the lowest, first page", x.reads(MIN), 2);
        CHECK.due("reads of the fourth, first page", x.reads(keys[1]), 2);
        CHECK.due("reads of the fifth, second page", x.reads(keys[0]), 3);
        x.delete(2);
        CHECK.due("reads of the highest of four", x.reads(keys[0]), 2);
    }

    private static void pagesOfAValue() {
        CHECK.sentence("for every value that is kept, if it has more than 2 BYTES, 1 for every 2 of"
                + " its bytes that are begun");
        int[] due = {0, 0, 0, 2, 2, 3, 3, 4, 4};
        for (int bytes = 1; bytes <= 8; bytes++) {
            ExtendiblePages x = new ExtendiblePages(50);
            x.put(1, 1L << 8 * bytes - 2);
            CHECK.due("pages() with a value of " + bytes + " bytes", x.pages(), 3 + due[bytes]);
            x.put(2, 1L << 8 * bytes - 2);
            CHECK.due("pages() with two values", x.pages(), 3 + 2 * due[bytes]);
            x.put(1, 0L);
            CHECK.due("pages() with one replaced", x.pages(), 3 + due[bytes]);
            x.delete(2);
            CHECK.due("pages() with the other deleted", x.pages(), 3);
        }
    }

    private static void bytesOfAValueBelowZero() {
        CHECK.sentence("A value below 0 has 8 bytes");
        for (long value : new long[] {-1L, -2L, -255L, -256L, -65536L, -1L << 32, Long.MIN_VALUE}) {
            ExtendiblePages x = new ExtendiblePages(50);
            x.put(1, value);
            CHECK.due("pages() with the value " + value, x.pages(), 7);
        }
    }

    private static void bytesOfAnyOtherValue() {
        CHECK.sentence("any other has the least number n of bytes, at least 1, with value < 256^n (no"
                + " value needs more than 8)");
        long[] values = {0L, 1L, 255L, 256L, 65535L, 65536L, (1L << 24) - 1, 1L << 24,
            (1L << 31) - 1, 1L << 31, (1L << 32) - 1, 1L << 32, (1L << 40) - 1, 1L << 40,
            (1L << 48) - 1, 1L << 48, (1L << 56) - 1, 1L << 56, 1L << 62, Long.MAX_VALUE};
        int[] due = {0, 0, 0, 0, 0, 2, 2, 2, 2, 2, 2, 3, 3, 3, 3, 4, 4, 4, 4, 4};
        ExtendiblePages x = new ExtendiblePages(50);
        for (int i = 0; i < values.length; i++) {
            x.put(1, values[i]);
            CHECK.due("pages() with the value " + values[i], x.pages(), 3 + due[i]);
        }
    }

    private static void recordsStandInOrder() {
        CHECK.sentence("Every change writes records, in order, behind those that are there");
        for (int survive = 0; survive <= 4; survive++) {
            ExtendiblePages x = new ExtendiblePages(50);
            x.put(1, 1L);
            x.put(1, 2L);
            x.delete(1);
            x.open();
            x.commit();
            CHECK.due("unflushed()", x.unflushed(), 4);
            x.crash(survive);
            CHECK.due("get(1) after crash(" + survive + ")", x.get(1), survive == 3 ? 0 : survive % 4);
            CHECK.due("has(1) after crash(" + survive + ")", x.has(1), survive == 1 || survive == 2);
        }
    }

    private static void putOrDeleteBeyond64Records() {
        CHECK.sentence("When a call writes n records and more than 64 would be unflushed then, those"
                + " that are unflushed already become flushed first.");
        for (int older = 63; older <= 64; older++) {
            ExtendiblePages replaced = Stores.withRecords(50, older);
            ExtendiblePages added = Stores.withRecords(50, older);
            ExtendiblePages deleted = Stores.withRecords(50, older);
            CHECK.due("put of a kept key behind " + older, replaced.put(1, 99L), 2);
            CHECK.due("put of a new key behind " + older, added.put(2, 99L), 1);
            CHECK.due("delete behind " + older, deleted.delete(1), 1);
            for (ExtendiblePages x : new ExtendiblePages[] {replaced, added, deleted}) {
                olderAreFlushed(x, older, 1);
            }
        }
    }

    private static void commitBeyond64Records() {
        CHECK.sentence("When a call writes n records and more than 64 would be unflushed then, those"
                + " that are unflushed already become flushed first.");
        for (int written = 1; written <= 6; written++) {
            for (int older = 64 - written; older <= 64; older++) {
                ExtendiblePages x = Stores.withRecords(50, older);
                x.open();
                for (int step = 1; step < written; step++) {
                    x.put(step, -1L);
                }
                CHECK.due("commit() behind " + older, x.commit(), written);
                olderAreFlushed(x, older, written);
            }
        }
    }

    private static void olderAreFlushed(ExtendiblePages x, int older, int written) {
        String calls = written + " records behind " + older;
        boolean areFlushed = older + written > 64;
        int due = areFlushed ? written : older + written;
        CHECK.due("unflushed() after " + calls, x.unflushed(), due);
        CHECK.due("crash(0) after " + calls, x.crash(0), due);
        CHECK.due("get(1) after both", x.get(1), areFlushed ? older : 0);
        CHECK.due("size() after both", x.size(), areFlushed ? 1 : 0);
    }

    private static void onlyOlderRecordsAreFlushed() {
        CHECK.sentence("they are UNFLUSHED at first and FLUSHED later");
        ExtendiblePages x = Stores.withRecords(50, 64);
        x.open();
        x.put(2, 2L);
        x.put(3, 3L);
        x.commit();
        x.put(4, 4L);
        CHECK.due("unflushed()", x.unflushed(), 4);
        CHECK.due("crash(2), within the batch", x.crash(2), 4);
        CHECK.due("get(1), flushed", x.get(1), 64);
        CHECK.due("size()", x.size(), 1);
    }

    private static void atMost60Keys() {
        CHECK.sentence("At most 60 keys are kept");
        for (int distance = 0; distance <= 1; distance++) {
            ExtendiblePages x = new ExtendiblePages(200);
            for (int n = 0; n < 59 + distance; n++) {
                x.put(n, 1L);
            }
            CHECK.due("put of the key " + (60 + distance), x.put(-7, 1L), 1 - distance);
            CHECK.due("size()", x.size(), 60);
            CHECK.due("has(-7)", x.has(-7), distance == 0);
        }
    }

    private static void atMostThePagesOfTheStore() {
        CHECK.sentence("and at most so many pages are in use as the store has");
        for (int pages = 8; pages <= 200; pages++) {
            ExtendiblePages x = Stores.full(pages);
            CHECK.due("pages() of a full store of " + pages, x.pages(), pages);
            int key = Keys.withHash(9, x.size());
            CHECK.due("put of a key that needs a page more", x.put(key, 1L), 0);
            CHECK.due("has after the refusal", x.has(key), false);
            CHECK.due("put of another value of 4 pages", x.put(Keys.withHash(9, 0), -2L), 2);
            CHECK.due("size(), not what refuses", x.size() < 60, true);
        }
    }

    private static void stepsChangeNothingThatIsKept() {
        CHECK.sentence("While a batch is open, put and delete do not change what is kept");
        ExtendiblePages x = Stores.ofOneHash(50, 0, 5);
        x.open();
        String due = Stores.answers(x).replace("steps 0", "steps 5");
        x.put(0, -5L);
        x.put(1, 1L);
        x.delete(0);
        x.delete(Keys.withHash(0, 4));
        x.delete(7);
        CHECK.due("all questions beside five steps", Stores.answers(x), due);
    }

    private static void atMost5Steps() {
        CHECK.sentence("they become its STEPS, at most 5");
        ExtendiblePages x = new ExtendiblePages(50);
        x.open();
        for (int step = 1; step <= 5; step++) {
            CHECK.due("step " + step, step % 2 == 0 ? x.delete(step) : x.put(step, 1L), 3);
            CHECK.due("steps()", x.steps(), step);
        }
        CHECK.due("put as step 6", x.put(6, 1L), 0);
        CHECK.due("delete as step 6", x.delete(6), 0);
        CHECK.due("steps()", x.steps(), 5);
        CHECK.due("commit()", x.commit(), 6);
        CHECK.due("size()", x.size(), 3);
    }

    private static void questionsLeaveStepsOut() {
        CHECK.sentence("All questions are about what is kept, without the steps.");
        ExtendiblePages x = Stores.ofOneHash(50, 0, 4);
        x.open();
        x.put(0, -5L);
        x.delete(Keys.withHash(0, 1));
        x.put(1, 1L);
        x.put(2, 1L);
        x.put(4, 1L);
        CHECK.due("has(0)", x.has(0), true);
        CHECK.due("has(1), of a step", x.has(1), false);
        CHECK.due("has of a key that a step deletes", x.has(Keys.withHash(0, 1)), true);
        CHECK.due("get(0)", x.get(0), 1);
        CHECK.due("get(1), of a step", x.get(1), 0);
        CHECK.due("reads(0)", x.reads(0), 2);
        CHECK.due("unflushed()", x.unflushed(), 4);
        CHECK.due("size()", x.size(), 4);
        CHECK.due("pages()", x.pages(), 3);
        CHECK.due("globalDepth()", x.globalDepth(), 0);
        CHECK.due("localDepth(1)", x.localDepth(1), 0);
        CHECK.due("buckets()", x.buckets(), 1);
        CHECK.due("bucketAt(1)", x.bucketAt(1), -1);
        CHECK.due("keyAt(1)", x.keyAt(1), Keys.withHash(0, 1));
        CHECK.due("keyAt(4)", x.keyAt(4), 0);
    }
}
