/** Promises 10 to 12, sentence by sentence: flush, crash, unflushed. */
public final class RecordsTest {
    private static final int MIN = Integer.MIN_VALUE;
    private static final int MAX = Integer.MAX_VALUE;
    private static final int NONE = ExtendiblePages.NONE;
    private static final Check CHECK = new Check("RecordsTest");

    public static void main(String[] args) {
        flushKeepsForGood();
        flushTellsHowMany();
        flushLeavesABatchOpen();
        crashOfTheNewest();
        crashWithSurviveBelowZero();
        crashWithSurviveAboveTheirNumber();
        crashWithinABatch();
        crashAmongSeveralBatches();
        crashOfABatchWithoutSteps();
        crashWithinABatchBehindManyRecords();
        crashTakesBack();
        crashBringsBucketsBack();
        crashFlushesTheSurvivors();
        crashForgetsTheOthers();
        crashDropsAnOpenBatch();
        crashTellsHowManyDidNotSurvive();
        unflushedCountsRecords();
        CHECK.finish();
    }

    // Promise 10

    private static void flushKeepsForGood() {
        CHECK.sentence("All unflushed records become flushed.");
        ExtendiblePages x = new ExtendiblePages(50);
        x.put(1, 1L);
        x.put(1, 2L);
        x.put(2, 2L);
        x.delete(2);
        x.open();
        x.put(3, 3L);
        x.commit();
        x.flush();
        CHECK.due("unflushed()", x.unflushed(), 0);
        CHECK.due("crash(0)", x.crash(0), 0);
        CHECK.due("get(1)", x.get(1), 2);
        CHECK.due("has(2)", x.has(2), false);
        CHECK.due("get(3)", x.get(3), 3);
        x.put(1, 9L);
        CHECK.due("crash(0) of a record behind a flush", x.crash(0), 1);
        CHECK.due("get(1) after it", x.get(1), 2);
    }

    private static void flushTellsHowMany() {
        CHECK.sentence("Answers how many those were.");
        ExtendiblePages x = new ExtendiblePages(50);
        CHECK.due("flush() of none", x.flush(), 0);
        x.put(1, 1L);
        CHECK.due("flush() of one", x.flush(), 1);
        CHECK.due("flush() again", x.flush(), 0);
        x.open();
        x.put(1, 1L);
        x.delete(7);
        x.commit();
        x.put(2, 2L);
        CHECK.due("flush() of a batch and a put", x.flush(), 4);
        CHECK.due("flush() of 63", Stores.withRecords(50, 63).flush(), 63);
        CHECK.due("flush() of 64", Stores.withRecords(50, 64).flush(), 64);
        CHECK.due("flush() of 65, 64 flushed before", Stores.withRecords(50, 65).flush(), 1);
    }

    private static void flushLeavesABatchOpen() {
        CHECK.sentence("(An open batch stays open.)");
        ExtendiblePages x = new ExtendiblePages(50);
        x.put(1, 1L);
        x.open();
        CHECK.due("flush() beside a batch without steps", x.flush(), 1);
        CHECK.due("steps()", x.steps(), 0);
        x.put(3, 3L);
        x.delete(1);
        CHECK.due("flush() beside a batch", x.flush(), 0);
        CHECK.due("steps() after the flush", x.steps(), 2);
        CHECK.due("open() after the flush", x.open(), false);
        CHECK.due("put after the flush", x.put(4, 4L), 3);
        CHECK.due("commit()", x.commit(), 4);
        CHECK.due("get(3)", x.get(3), 3);
        CHECK.due("has(1)", x.has(1), false);
        CHECK.due("size()", x.size(), 2);
    }

    // Promise 11

    /** The key 0 is flushed; the keys 1, 2, 3 are not. */
    private static ExtendiblePages ofThreeRecords() {
        ExtendiblePages x = new ExtendiblePages(50);
        x.put(0, 5L);
        x.flush();
        for (int key = 1; key <= 3; key++) {
            x.put(key, 5L);
        }
        return x;
    }

    private static void survivorsAre(int survive, int survivors) {
        ExtendiblePages x = ofThreeRecords();
        CHECK.due("crash(" + survive + ")", x.crash(survive), 3 - survivors);
        CHECK.due("size() after crash(" + survive + ")", x.size(), 1 + survivors);
        for (int key = 0; key <= 3; key++) {
            CHECK.due("has(" + key + ") after it", x.has(key), key <= survivors);
        }
    }

    private static void crashOfTheNewest() {
        CHECK.sentence("Of the unflushed records the first so many survive");
        for (int survive = 0; survive <= 3; survive++) {
            survivorsAre(survive, survive);
        }
        for (int survive = 0; survive <= 64; survive++) {
            ExtendiblePages x = Stores.withRecords(50, 64);
            CHECK.due("crash(" + survive + ") of 64", x.crash(survive), 64 - survive);
            CHECK.due("get(1) after it", x.get(1), survive);
        }
    }

    private static void crashWithSurviveBelowZero() {
        CHECK.sentence("none when survive is below 0");
        for (int survive : new int[] {-1, -2, -64, MIN + 1, MIN}) {
            survivorsAre(survive, 0);
        }
        CHECK.due("crash(-1) of no record", new ExtendiblePages(50).crash(-1), 0);
        CHECK.due("crash(MIN) of no record", new ExtendiblePages(50).crash(MIN), 0);
        CHECK.due("crash(MIN) of 64 records", Stores.withRecords(50, 64).crash(MIN), 64);
    }

    private static void crashWithSurviveAboveTheirNumber() {
        CHECK.sentence("all when it is above their number");
        for (int survive : new int[] {4, 5, 64, 65, 1000, MAX - 1, MAX}) {
            survivorsAre(survive, 3);
        }
        CHECK.due("crash(1) of no record", new ExtendiblePages(50).crash(1), 0);
        CHECK.due("crash(MAX) of no record", new ExtendiblePages(50).crash(MAX), 0);
        CHECK.due("crash(65) of 64 records", Stores.withRecords(50, 64).crash(65), 0);
        ExtendiblePages x = new ExtendiblePages(50);
        x.open();
        x.put(1, 1L);
        x.commit();
        CHECK.due("crash(3) of a batch of 2 records", x.crash(3), 0);
        CHECK.due("get(1)", x.get(1), 1);
    }

    private static void crashWithinABatch() {
        CHECK.sentence("but of a batch whose last record does not survive, none does");
        int[] lost = {6, 5, 5, 5, 5, 1, 0};
        for (int survive = 0; survive < lost.length; survive++) {
            ExtendiblePages x = new ExtendiblePages(50);
            x.put(1, 1L);
            x.open();
            x.put(1, 2L);
            x.put(2, 2L);
            x.delete(1);
            x.commit();
            x.put(3, 3L);
            String call = "crash(" + survive + ")";
            CHECK.due(call, x.crash(survive), lost[survive]);
            CHECK.due("get(1) after " + call, x.get(1), survive > 0 && survive < 5 ? 1 : 0);
            CHECK.due("has(2) after " + call, x.has(2), survive >= 5);
            CHECK.due("has(3) after " + call, x.has(3), survive >= 6);
        }
    }

    private static void crashAmongSeveralBatches() {
        CHECK.sentence("but of a batch whose last record does not survive, none does");
        int[] kept = {0, 0, 1, 1, 1, 3, 3, 4};
        int[] left = {0, 0, 2, 2, 2, 5, 5, 7};
        for (int survive = 0; survive < kept.length; survive++) {
            ExtendiblePages x = new ExtendiblePages(50);
            x.open();
            x.put(1, 1L);
            x.commit();
            x.open();
            x.put(2, 2L);
            x.put(3, 3L);
            x.commit();
            x.open();
            x.put(4, 4L);
            x.commit();
            CHECK.due("crash(" + survive + ")", x.crash(survive), 7 - left[survive]);
            CHECK.due("size() after crash(" + survive + ")", x.size(), kept[survive]);
        }
    }

    private static void crashOfABatchWithoutSteps() {
        CHECK.sentence("but of a batch whose last record does not survive, none does");
        for (int survive = 0; survive <= 3; survive++) {
            ExtendiblePages x = new ExtendiblePages(50);
            x.put(1, 1L);
            x.open();
            x.commit();
            x.put(2, 2L);
            CHECK.due("crash(" + survive + ")", x.crash(survive), 3 - survive);
            CHECK.due("has(1) after crash(" + survive + ")", x.has(1), survive >= 1);
            CHECK.due("has(2) after crash(" + survive + ")", x.has(2), survive >= 3);
        }
    }

    private static void crashWithinABatchBehindManyRecords() {
        CHECK.sentence("but of a batch whose last record does not survive, none does");
        // Behind 58 the batch fills the 64; behind 59 it stands alone, the older ones are flushed.
        for (int older = 58; older <= 59; older++) {
            int first = older == 58 ? 58 : 0;
            for (int survivors = 0; survivors <= 6; survivors++) {
                ExtendiblePages x = Stores.withRecords(50, older);
                x.open();
                for (int step = 1; step <= 5; step++) {
                    x.put(step, -1L);
                }
                x.commit();
                boolean isWhole = survivors == 6;
                String call = "crash(" + (first + survivors) + ") behind " + older;
                CHECK.due(call, x.crash(first + survivors), isWhole ? 0 : 6);
                CHECK.due("get(1) after " + call, x.get(1), isWhole ? -1 : older);
                CHECK.due("size() after " + call, x.size(), isWhole ? 5 : 1);
            }
        }
    }

    private static void crashTakesBack() {
        CHECK.sentence("What the others did is taken back: what is kept is what it was before the"
                + " first of them.");
        ExtendiblePages x = new ExtendiblePages(50);
        x.put(1, 10L);
        x.put(2, 0L);
        x.put(1, 11L);
        x.put(1, -12L);
        x.delete(1);
        x.delete(2);
        x.put(1, 13L);
        x.put(3, 3L);
        CHECK.due("crash(2)", x.crash(2), 6);
        CHECK.due("get(1), put and deleted since", x.get(1), 10);
        CHECK.due("has(2), whose value is 0", x.has(2), true);
        CHECK.due("has(3), new since", x.has(3), false);
        CHECK.due("pages()", x.pages(), 3);
        x.open();
        x.delete(1);
        x.put(1, 5L);
        x.put(1, 6L);
        x.delete(2);
        x.delete(4);
        x.commit();
        CHECK.due("crash(5) of a batch of 6", x.crash(5), 6);
        CHECK.due("get(1) after a batch", x.get(1), 10);
        CHECK.due("size() after a batch", x.size(), 2);
        x.put(0, 7L);
        x.flush();
        x.open();
        x.put(5, 5L);
        x.commit();
        CHECK.due("crash(0) of a batch of 2", x.crash(0), 2);
        CHECK.due("get(0), which the batch did not change", x.get(0), 7);
    }

    private static void crashBringsBucketsBack() {
        CHECK.sentence("what is kept is what it was before the first of them");
        ExtendiblePages x = new ExtendiblePages(100);
        for (int key = 0; key < 20; key++) {
            x.put(key, 70000L);
        }
        x.flush();
        String before = Stores.answers(x);
        for (int key = 0; key < 18; key++) {
            x.delete(key);
        }
        CHECK.due("buckets() without the deleted", x.buckets(), 1);
        CHECK.due("crash(0)", x.crash(0), 18);
        CHECK.due("the answers after the crash", Stores.answers(x), before);
        CHECK.due("buckets()", x.buckets(), 8);
        CHECK.due("globalDepth()", x.globalDepth(), 3);
        CHECK.due("keyAt(1)", x.keyAt(1), 8);
        CHECK.due("keyAt(19)", x.keyAt(19), 15);
    }

    private static void crashFlushesTheSurvivors() {
        CHECK.sentence("The records that survived become flushed");
        for (int survive : new int[] {0, 1, 2, 3, 9}) {
            ExtendiblePages x = ofThreeRecords();
            x.crash(survive);
            int size = x.size();
            CHECK.due("unflushed() after crash(" + survive + ")", x.unflushed(), 0);
            CHECK.due("flush() after it", x.flush(), 0);
            CHECK.due("a second crash", x.crash(0), 0);
            CHECK.due("size() after a second crash", x.size(), size);
        }
    }

    private static void crashForgetsTheOthers() {
        CHECK.sentence("the others are gone");
        ExtendiblePages x = Stores.withRecords(50, 64);
        x.crash(1);
        for (int n = 1; n <= 64; n++) {
            x.put(2, n);
            CHECK.due("unflushed() after " + n + " puts behind the crash", x.unflushed(), n);
        }
        CHECK.due("crash(1)", x.crash(1), 63);
        CHECK.due("get(1), survived the first crash", x.get(1), 1);
        CHECK.due("get(2), survived the second", x.get(2), 1);
    }

    private static void crashDropsAnOpenBatch() {
        CHECK.sentence("A batch that is open is open no more, its steps are dropped.");
        for (int survive : new int[] {MIN, 0, 1, 2, MAX}) {
            ExtendiblePages x = new ExtendiblePages(50);
            x.put(1, 1L);
            x.open();
            x.put(2, 2L);
            x.delete(1);
            CHECK.due("crash(" + survive + ")", x.crash(survive), survive > 0 ? 0 : 1);
            CHECK.due("steps()", x.steps(), NONE);
            CHECK.due("commit()", x.commit(), NONE);
            CHECK.due("has(1)", x.has(1), survive > 0);
            CHECK.due("has(2)", x.has(2), false);
            CHECK.due("put(2, 3), no step any more", x.put(2, 3L), 1);
        }
        ExtendiblePages x = new ExtendiblePages(50);
        x.open();
        CHECK.due("crash(0) of no record", x.crash(0), 0);
        CHECK.due("abandon() after it", x.abandon(), NONE);
    }

    private static void crashTellsHowManyDidNotSurvive() {
        CHECK.sentence("Answers how many records did not survive.");
        CHECK.due("crash(0) of no record", new ExtendiblePages(50).crash(0), 0);
        CHECK.due("crash(0) of 64", Stores.withRecords(50, 64).crash(0), 64);
        CHECK.due("crash(63) of 64", Stores.withRecords(50, 64).crash(63), 1);
        CHECK.due("crash(64) of 64", Stores.withRecords(50, 64).crash(64), 0);
        CHECK.due("crash(0) of 65", Stores.withRecords(50, 65).crash(0), 1);
        ExtendiblePages x = Stores.withRecords(50, 2);
        x.open();
        x.put(7, 7L);
        x.put(8, 8L);
        CHECK.due("crash(1), steps are no records", x.crash(1), 1);
    }

    // Promise 12

    private static void unflushedCountsRecords() {
        CHECK.sentence("How many records are unflushed.");
        ExtendiblePages x = new ExtendiblePages(50);
        CHECK.due("unflushed() of a new object", x.unflushed(), 0);
        x.put(1, 1L);
        CHECK.due("unflushed() after a put", x.unflushed(), 1);
        x.delete(1);
        CHECK.due("unflushed() after a delete", x.unflushed(), 2);
        x.delete(1);
        CHECK.due("unflushed() after a refused delete", x.unflushed(), 2);
        x.open();
        x.put(2, 2L);
        CHECK.due("unflushed() after a step", x.unflushed(), 2);
        x.commit();
        CHECK.due("unflushed() after a commit", x.unflushed(), 4);
        x.open();
        x.abandon();
        CHECK.due("unflushed() after an abandon", x.unflushed(), 4);
        x.flush();
        CHECK.due("unflushed() after a flush", x.unflushed(), 0);
        CHECK.due("unflushed() of 64", Stores.withRecords(50, 64).unflushed(), 64);
        CHECK.due("unflushed() of 65", Stores.withRecords(50, 65).unflushed(), 1);
        CHECK.due("unflushed() of 128", Stores.withRecords(50, 128).unflushed(), 64);
    }
}
