/** Promises 10 to 12: flush, crash, unflushed. */
public final class RecordsTest {
    private static final Check CHECK = new Check("RecordsTest");

    public static void main(String[] args) {
        flushKeepsForGood();
        crashTakesTheNewestBack();
        crashTakesReplacedAndDeletedBack();
        crashTakesABatchBackAsAWhole();
        crashAmongSeveralBatches();
        crashDropsAnOpenBatch();
        crashBringsBucketsBack();
        sixtyFiveRecordsFlushTheOlder();
        aBatchFlushesTheOlder();
        CHECK.finish();
    }

    private static void flushKeepsForGood() {
        ExtendiblePages x = new ExtendiblePages(50);
        CHECK.due("flush() of none", x.flush(), 0);
        x.put(1, 1L);
        x.put(1, 2L);
        x.delete(1);
        x.put(2, 2L);
        CHECK.due("flush()", x.flush(), 4);
        CHECK.due("flush() again", x.flush(), 0);
        CHECK.due("unflushed()", x.unflushed(), 0);
        CHECK.due("crash(0)", x.crash(0), 0);
        CHECK.due("get(2)", x.get(2), 2);
        x.open();
        x.put(3, 3L);
        CHECK.due("flush() beside a batch", x.flush(), 0);
        CHECK.due("commit() after it", x.commit(), 2);
        CHECK.due("get(3)", x.get(3), 3);
        CHECK.due("flush() of a batch", x.flush(), 2);
    }

    private static void crashTakesTheNewestBack() {
        int[] survive = {Integer.MIN_VALUE, -1, 0, 1, 2, 3, 4, Integer.MAX_VALUE};
        int[] kept = {1, 1, 1, 2, 3, 4, 4, 4};
        for (int i = 0; i < survive.length; i++) {
            ExtendiblePages x = new ExtendiblePages(50);
            x.put(0, 5L);
            x.flush();
            x.put(1, 5L);
            x.put(2, 5L);
            x.put(3, 5L);
            CHECK.due("crash(" + survive[i] + ")", x.crash(survive[i]), 4 - kept[i]);
            CHECK.due("size() after crash(" + survive[i] + ")", x.size(), kept[i]);
            CHECK.due("has(1) after crash(" + survive[i] + ")", x.has(1), kept[i] > 1);
            CHECK.due("has(2) after crash(" + survive[i] + ")", x.has(2), kept[i] > 2);
            CHECK.due("unflushed() after crash(" + survive[i] + ")", x.unflushed(), 0);
            CHECK.due("a second crash", x.crash(0), 0);
            CHECK.due("size() after a second crash", x.size(), kept[i]);
        }
    }

    private static void crashTakesReplacedAndDeletedBack() {
        ExtendiblePages x = new ExtendiblePages(50);
        x.put(1, 10L);
        x.put(2, 0L);
        x.put(1, 11L);
        x.put(1, 12L);
        x.delete(1);
        x.delete(2);
        x.put(1, 13L);
        CHECK.due("crash(2)", x.crash(2), 5);
        CHECK.due("get(1)", x.get(1), 10);
        CHECK.due("has(2), whose value is 0", x.has(2), true);
        x.put(1, 20L);
        x.delete(1);
        CHECK.due("crash(1)", x.crash(1), 1);
        CHECK.due("get(1) after it", x.get(1), 20);
    }

    private static void crashTakesABatchBackAsAWhole() {
        int[] lost = {6, 5, 5, 5, 5, 1, 0};
        for (int survive = 0; survive < lost.length; survive++) {
            ExtendiblePages x = new ExtendiblePages(50);
            x.put(1, 1L);
            x.open();
            x.put(1, 2L);
            x.put(2, 2L);
            x.delete(1);
            x.commit();
            x.put(3, 3L);
            String call = "crash(" + survive + ")";
            CHECK.due(call, x.crash(survive), lost[survive]);
            CHECK.due("get(1) after " + call, x.get(1), survive > 0 && survive < 5 ? 1 : 0);
            CHECK.due("has(2) after " + call, x.has(2), survive >= 5);
            CHECK.due("has(3) after " + call, x.has(3), survive >= 6);
            CHECK.due("unflushed() after " + call, x.unflushed(), 0);
        }
    }

    private static void crashAmongSeveralBatches() {
        int[] kept = {0, 0, 1, 1, 1, 3, 3};
        int[] left = {0, 0, 2, 2, 2, 5, 5};
        for (int survive = 0; survive < kept.length; survive++) {
            ExtendiblePages x = new ExtendiblePages(50);
            x.open();
            x.put(1, 1L);
            x.commit();
            x.open();
            x.put(2, 2L);
            x.put(3, 3L);
            x.commit();
            x.open();
            x.put(4, 4L);
            x.commit();
            CHECK.due("crash(" + survive + ")", x.crash(survive), 7 - left[survive]);
            CHECK.due("size() after crash(" + survive + ")", x.size(), kept[survive]);
        }
    }

    private static void crashDropsAnOpenBatch() {
        ExtendiblePages x = new ExtendiblePages(50);
        x.put(1, 1L);
        x.open();
        x.put(2, 2L);
        CHECK.due("crash(1)", x.crash(1), 0);
        CHECK.due("steps()", x.steps(), -1);
        CHECK.due("commit()", x.commit(), -1);
        CHECK.due("has(1)", x.has(1), true);
        CHECK.due("has(2)", x.has(2), false);
        CHECK.due("put(2, 3), no step any more", x.put(2, 3L), 1);
    }

    private static void crashBringsBucketsBack() {
        ExtendiblePages x = new ExtendiblePages(100);
        for (int key = 0; key < 20; key++) {
            x.put(key, 70000L);
        }
        x.flush();
        int pages = x.pages();
        for (int key = 0; key < 18; key++) {
            x.delete(key);
        }
        CHECK.due("buckets() without the deleted", x.buckets(), 1);
        CHECK.due("crash(0)", x.crash(0), 18);
        CHECK.due("buckets()", x.buckets(), 8);
        CHECK.due("globalDepth()", x.globalDepth(), 3);
        CHECK.due("pages()", x.pages(), pages);
        CHECK.due("keyAt(0)", x.keyAt(0), 0);
        CHECK.due("keyAt(1)", x.keyAt(1), 8);
        CHECK.due("keyAt(19)", x.keyAt(19), 15);
    }

    private static void sixtyFiveRecordsFlushTheOlder() {
        ExtendiblePages x = new ExtendiblePages(50);
        for (int n = 1; n <= 64; n++) {
            x.put(1, n);
            CHECK.due("unflushed() of " + n + " records", x.unflushed(), n);
        }
        CHECK.due("delete(2), refused", x.delete(2), 0);
        CHECK.due("unflushed() after the refusal", x.unflushed(), 64);
        x.delete(1);
        CHECK.due("unflushed() after the 65th", x.unflushed(), 1);
        CHECK.due("crash(0)", x.crash(0), 1);
        CHECK.due("get(1)", x.get(1), 64);
        for (int n = 1; n <= 65; n++) {
            x.put(1, 100 + n);
        }
        CHECK.due("unflushed() after 65 puts", x.unflushed(), 1);
        CHECK.due("crash(0) after 65 puts", x.crash(0), 1);
        CHECK.due("get(1) after 65 puts", x.get(1), 164);
    }

    private static void aBatchFlushesTheOlder() {
        for (int older = 57; older <= 64; older++) {
            ExtendiblePages x = new ExtendiblePages(50);
            for (int n = 1; n <= older; n++) {
                x.put(1, n);
            }
            x.open();
            x.put(1, -1L);
            for (int step = 1; step < 5; step++) {
                x.put(1 + step, step);
            }
            CHECK.due("commit() behind " + older, x.commit(), 6);
            boolean isFlushed = older > 58;
            CHECK.due("unflushed() behind " + older, x.unflushed(), isFlushed ? 6 : older + 6);
            CHECK.due("crash behind " + older, x.crash(x.unflushed() - 1), 6);
            CHECK.due("get(1) behind " + older, x.get(1), older);
            CHECK.due("size() behind " + older, x.size(), 1);
        }
    }
}
