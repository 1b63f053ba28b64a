/** Promises 7 to 9 and 13: open, commit, abandon, steps. */
public final class BatchTest {
    private static final Check CHECK = new Check("BatchTest");

    public static void main(String[] args) {
        openOpensOne();
        commitDoesTheSteps();
        commitKeepsTheOrderOfTheSteps();
        commitOfNoSteps();
        commitWithoutABatch();
        commitCountsKeysAfterTheLastStepOnly();
        commitCountsPagesAfterTheLastStepOnly();
        commitRefusedFlushesNothing();
        abandonDropsTheSteps();
        stepsAreCounted();
        CHECK.finish();
    }

    private static void openOpensOne() {
        ExtendiblePages x = new ExtendiblePages(50);
        CHECK.due("open()", x.open(), true);
        x.put(1, 1L);
        CHECK.due("open() of an open one", x.open(), false);
        CHECK.due("steps() after the refusal", x.steps(), 1);
        CHECK.due("commit()", x.commit(), 2);
        CHECK.due("open() after a commit", x.open(), true);
        CHECK.due("steps() of the new one", x.steps(), 0);
        CHECK.due("abandon()", x.abandon(), 0);
        CHECK.due("open() after an abandon", x.open(), true);
        x.crash(9);
        CHECK.due("open() after a crash", x.open(), true);
    }

    private static void commitDoesTheSteps() {
        ExtendiblePages x = new ExtendiblePages(50);
        x.put(1, 10L);
        x.put(2, 20L);
        x.open();
        x.put(1, 11L);
        x.delete(2);
        x.put(3, 30L);
        x.delete(4);
        x.delete(4);
        CHECK.due("commit()", x.commit(), 6);
        CHECK.due("get(1)", x.get(1), 11);
        CHECK.due("has(2)", x.has(2), false);
        CHECK.due("get(3)", x.get(3), 30);
        CHECK.due("has(4)", x.has(4), false);
        CHECK.due("size()", x.size(), 2);
        CHECK.due("unflushed()", x.unflushed(), 8);
        CHECK.due("steps()", x.steps(), -1);
        CHECK.due("put(5, 5), no step any more", x.put(5, 5L), 1);
    }

    private static void commitKeepsTheOrderOfTheSteps() {
        ExtendiblePages x = new ExtendiblePages(50);
        x.open();
        x.put(1, 1L);
        x.put(1, 2L);
        x.delete(3);
        x.put(3, 3L);
        x.delete(1);
        CHECK.due("commit()", x.commit(), 6);
        CHECK.due("has(1)", x.has(1), false);
        CHECK.due("get(3)", x.get(3), 3);
    }

    private static void commitOfNoSteps() {
        ExtendiblePages x = new ExtendiblePages(50);
        x.open();
        CHECK.due("commit() of no steps", x.commit(), 1);
        CHECK.due("unflushed()", x.unflushed(), 1);
        CHECK.due("crash(0)", x.crash(0), 1);
        CHECK.due("size()", x.size(), 0);
    }

    private static void commitWithoutABatch() {
        ExtendiblePages x = new ExtendiblePages(50);
        CHECK.due("commit()", x.commit(), ExtendiblePages.NONE);
        CHECK.due("unflushed()", x.unflushed(), 0);
    }

    private static void commitCountsKeysAfterTheLastStepOnly() {
        ExtendiblePages x = new ExtendiblePages(200);
        for (int n = 0; n < 60; n++) {
            x.put(Keys.withHash(1, n), n);
        }
        x.open();
        for (int n = 60; n < 65; n++) {
            x.put(Keys.withHash(1, n), n);
        }
        CHECK.due("commit() to 65 keys", x.commit(), 0);
        CHECK.due("size() after the refusal", x.size(), 60);
        CHECK.due("keyAt(59) after the refusal", x.keyAt(59), Keys.withHash(1, 59));
        CHECK.due("steps() after the refusal", x.steps(), -1);
        CHECK.due("unflushed() after the refusal", x.unflushed(), 60);
        x.open();
        x.put(Keys.withHash(1, 60), 60L);
        CHECK.due("commit() to 61 keys", x.commit(), 0);
        x.open();
        x.put(Keys.withHash(1, 60), 60L);
        x.put(Keys.withHash(1, 61), 61L);
        x.delete(Keys.withHash(1, 0));
        x.delete(Keys.withHash(1, 1));
        CHECK.due("commit() over 62 keys to 60", x.commit(), 5);
        CHECK.due("size()", x.size(), 60);
        CHECK.due("keyAt(0)", x.keyAt(0), Keys.withHash(1, 2));
        CHECK.due("keyAt(59)", x.keyAt(59), Keys.withHash(1, 61));
    }

    private static void commitCountsPagesAfterTheLastStepOnly() {
        ExtendiblePages x = new ExtendiblePages(8);
        x.put(1, -1L);
        x.open();
        x.put(2, -2L);
        x.put(3, 3L);
        CHECK.due("commit() to 11 pages", x.commit(), 0);
        CHECK.due("has(2) after the refusal", x.has(2), false);
        CHECK.due("has(3) after the refusal", x.has(3), false);
        CHECK.due("pages() after the refusal", x.pages(), 7);
        CHECK.due("unflushed() after the refusal", x.unflushed(), 1);
        CHECK.due("put(3, 3), no step any more", x.put(3, 3L), 1);
        x.open();
        x.put(2, -2L);
        x.put(3, -3L);
        x.delete(1);
        x.put(3, 4L);
        CHECK.due("commit() over 15 pages to 7", x.commit(), 5);
        CHECK.due("pages()", x.pages(), 7);
        CHECK.due("get(2)", x.get(2), -2);
        CHECK.due("get(3)", x.get(3), 4);
    }

    private static void commitRefusedFlushesNothing() {
        ExtendiblePages x = new ExtendiblePages(8);
        for (int n = 0; n < 63; n++) {
            x.put(1, n);
        }
        x.open();
        x.put(1, 7L);
        x.put(2, -2L);
        x.put(3, -3L);
        CHECK.due("commit() to too many pages", x.commit(), 0);
        CHECK.due("unflushed() after the refusal", x.unflushed(), 63);
        CHECK.due("crash(10)", x.crash(10), 53);
        CHECK.due("get(1)", x.get(1), 9);
    }

    private static void abandonDropsTheSteps() {
        ExtendiblePages x = new ExtendiblePages(50);
        CHECK.due("abandon() without a batch", x.abandon(), ExtendiblePages.NONE);
        x.open();
        CHECK.due("abandon() of no steps", x.abandon(), 0);
        x.open();
        x.put(1, 1L);
        x.delete(1);
        x.put(2, 2L);
        CHECK.due("abandon() of 3 steps", x.abandon(), 3);
        CHECK.due("abandon() again", x.abandon(), ExtendiblePages.NONE);
        CHECK.due("commit() after it", x.commit(), ExtendiblePages.NONE);
        CHECK.due("size()", x.size(), 0);
        CHECK.due("unflushed()", x.unflushed(), 0);
        CHECK.due("put(2, 2), no step any more", x.put(2, 2L), 1);
    }

    private static void stepsAreCounted() {
        ExtendiblePages x = new ExtendiblePages(50);
        CHECK.due("steps() without a batch", x.steps(), ExtendiblePages.NONE);
        x.open();
        for (int step = 0; step < 5; step++) {
            CHECK.due("steps()", x.steps(), step);
            x.put(1, 1L);
        }
        CHECK.due("steps(), as many as there may be", x.steps(), 5);
        x.put(1, 1L);
        CHECK.due("steps() after a refused one", x.steps(), 5);
        x.flush();
        CHECK.due("steps() after a flush", x.steps(), 5);
        x.commit();
        CHECK.due("steps() after the commit", x.steps(), ExtendiblePages.NONE);
        x.open();
        x.put(1, 1L);
        x.crash(0);
        CHECK.due("steps() after a crash", x.steps(), ExtendiblePages.NONE);
    }
}
