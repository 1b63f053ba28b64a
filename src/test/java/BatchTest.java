/** Promises 7 to 9 and 13, sentence by sentence: open, commit, abandon, steps. */
public final class BatchTest {
    private static final int NONE = ExtendiblePages.NONE;
    private static final Check CHECK = new Check("BatchTest");

    public static void main(String[] args) {
        openOpensABatchWithoutSteps();
        openOfAnOpenOne();
        commitDoesTheStepsInTheirOrder();
        commitOfADeleteOfNone();
        commitToTooManyKeys();
        commitOverTooManyKeys();
        commitToTooManyPages();
        commitOverTooManyPages();
        commitRefusedDoesNothing();
        commitRefusedWritesNoRecord();
        commitWritesItsRecords();
        commitOfNoSteps();
        commitEndsTheBatch();
        commitRefusedEndsTheBatch();
        commitWithoutABatch();
        abandonDropsTheSteps();
        abandonTellsHowManyItHad();
        abandonWithoutABatch();
        stepsAreCounted();
        stepsWithoutABatch();
        CHECK.finish();
    }

    // Promise 7

    private static void openOpensABatchWithoutSteps() {
        CHECK.sentence("Opens a batch without steps. Answers true.");
        ExtendiblePages x = new ExtendiblePages(8);
        CHECK.due("open()", x.open(), true);
        CHECK.due("steps() of it", x.steps(), 0);
        x.put(1, 1L);
        x.commit();
        CHECK.due("open() after a commit", x.open(), true);
        CHECK.due("steps() after a commit", x.steps(), 0);
        x.put(2, -1L);
        x.put(3, -1L);
        x.commit();
        CHECK.due("open() after a commit that did nothing", x.open(), true);
        CHECK.due("steps() after a commit that did nothing", x.steps(), 0);
        x.put(4, 4L);
        x.abandon();
        CHECK.due("open() after an abandon", x.open(), true);
        CHECK.due("steps() after an abandon", x.steps(), 0);
        x.put(5, 5L);
        x.crash(9);
        CHECK.due("open() after a crash", x.open(), true);
        CHECK.due("steps() after a crash", x.steps(), 0);
        CHECK.due("commit() of none of these steps", x.commit(), 1);
        CHECK.due("size()", x.size(), 1);
        CHECK.due("open() opens for a put", x.open(), true);
        CHECK.due("put(6, 6)", x.put(6, 6L), 3);
    }

    private static void openOfAnOpenOne() {
        CHECK.sentence("Refused, false: one is open.");
        ExtendiblePages x = new ExtendiblePages(50);
        x.open();
        CHECK.due("open() of an open one without steps", x.open(), false);
        CHECK.due("steps() after the refusal", x.steps(), 0);
        for (int step = 1; step <= 5; step++) {
            x.put(step, 1L);
            CHECK.due("open() of an open one", x.open(), false);
            CHECK.due("steps() after the refusal", x.steps(), step);
        }
        CHECK.due("commit()", x.commit(), 6);
        CHECK.due("size()", x.size(), 5);
    }

    // Promise 8

    private static void commitDoesTheStepsInTheirOrder() {
        CHECK.sentence("The steps of the batch are done in their order");
        ExtendiblePages x = new ExtendiblePages(50);
        x.put(5, 5L);
        x.open();
        x.put(1, 1L);
        x.put(1, 2L);
        x.put(2, 2L);
        x.delete(2);
        x.delete(5);
        CHECK.due("commit()", x.commit(), 6);
        CHECK.due("get(1), put twice", x.get(1), 2);
        CHECK.due("has(2), put and deleted", x.has(2), false);
        CHECK.due("has(5), deleted", x.has(5), false);
        x.open();
        x.delete(1);
        x.put(1, 7L);
        x.delete(3);
        x.put(3, 3L);
        x.put(5, 6L);
        CHECK.due("commit()", x.commit(), 6);
        CHECK.due("get(1), deleted and put", x.get(1), 7);
        CHECK.due("get(3), deleted and put", x.get(3), 3);
        CHECK.due("get(5), put", x.get(5), 6);
        CHECK.due("size()", x.size(), 3);
    }

    private static void commitOfADeleteOfNone() {
        CHECK.sentence("(a delete of a key that is not kept does nothing)");
        ExtendiblePages x = new ExtendiblePages(50);
        x.put(1, 1L);
        x.open();
        x.delete(2);
        x.delete(64);
        x.delete(1);
        x.delete(1);
        x.put(3, 3L);
        CHECK.due("commit()", x.commit(), 6);
        CHECK.due("size()", x.size(), 1);
        CHECK.due("get(3), of the step behind", x.get(3), 3);
        CHECK.due("crash(1)", x.crash(1), 6);
        CHECK.due("get(1) after the crash", x.get(1), 1);
        CHECK.due("has(2) after the crash", x.has(2), false);
        CHECK.due("size() after the crash", x.size(), 1);
    }

    private static void commitToTooManyKeys() {
        CHECK.sentence("If after the last step, and only that counts, more than 60 keys would be kept");
        for (int before = 55; before <= 60; before++) {
            for (int steps = 1; steps <= 5; steps++) {
                ExtendiblePages x = Stores.ofOneHash(200, 1, before);
                x.open();
                for (int n = 0; n < steps; n++) {
                    x.put(Keys.withHash(1, before + n), 1L);
                }
                boolean fits = before + steps <= 60;
                String call = "commit() of " + steps + " new keys beside " + before;
                CHECK.due(call, x.commit(), fits ? steps + 1 : 0);
                CHECK.due("size() after " + call, x.size(), fits ? before + steps : before);
            }
        }
    }

    private static void commitOverTooManyKeys() {
        CHECK.sentence("after the last step, and only that counts");
        ExtendiblePages x = Stores.ofOneHash(200, 1, 60);
        x.open();
        x.put(Keys.withHash(1, 60), 60L);
        x.put(Keys.withHash(1, 61), 61L);
        x.delete(Keys.withHash(1, 0));
        x.delete(Keys.withHash(1, 1));
        CHECK.due("commit() over 62 keys to 60", x.commit(), 5);
        CHECK.due("size()", x.size(), 60);
        CHECK.due("keyAt(0)", x.keyAt(0), Keys.withHash(1, 2));
        CHECK.due("keyAt(59)", x.keyAt(59), Keys.withHash(1, 61));
        x.open();
        x.delete(Keys.withHash(1, 2));
        x.put(Keys.withHash(1, 2), 2L);
        x.put(Keys.withHash(1, 0), 0L);
        CHECK.due("commit() over 59 keys to 61", x.commit(), 0);
        x.open();
        x.put(Keys.withHash(1, 62), 62L);
        x.put(Keys.withHash(1, 63), 63L);
        x.put(Keys.withHash(1, 64), 64L);
        x.delete(Keys.withHash(1, 62));
        x.delete(Keys.withHash(1, 63));
        CHECK.due("commit() over 63 keys to 61", x.commit(), 0);
        x.open();
        x.put(Keys.withHash(1, 2), 2L);
        CHECK.due("commit() of a kept key beside 59", x.commit(), 2);
    }

    private static void commitToTooManyPages() {
        CHECK.sentence("or more pages would be in use than the store has");
        for (int store = 8; store <= 12; store++) {
            ExtendiblePages x = new ExtendiblePages(store);
            x.put(1, -1L);
            x.open();
            x.put(1, 65536L);
            x.put(2, 65536L);
            x.put(3, 1L << 32);
            boolean fits = store >= 10;
            CHECK.due("commit() to 10 pages of " + store, x.commit(), fits ? 4 : 0);
            CHECK.due("pages() after it", x.pages(), fits ? 10 : 7);
            CHECK.due("get(1) after it", x.get(1), fits ? 65536 : -1);
        }
    }

    private static void commitOverTooManyPages() {
        CHECK.sentence("after the last step, and only that counts");
        ExtendiblePages x = new ExtendiblePages(8);
        x.put(1, -1L);
        x.put(3, 3L);
        x.open();
        x.put(2, -2L);
        x.put(3, -3L);
        x.delete(1);
        x.put(3, 4L);
        CHECK.due("commit() over 15 pages to 7", x.commit(), 5);
        CHECK.due("pages()", x.pages(), 7);
        CHECK.due("get(2)", x.get(2), -2);
        CHECK.due("get(3)", x.get(3), 4);
        // Five keys of the hash 0 and one of 32 need 4 pages of directory and 8 of buckets.
        x = Stores.ofOneHash(8, 0, 5);
        x.open();
        x.put(32, 1L);
        x.delete(32);
        CHECK.due("commit() over 13 pages to 4", x.commit(), 3);
        CHECK.due("globalDepth()", x.globalDepth(), 0);
    }

    private static void commitRefusedDoesNothing() {
        CHECK.sentence("nothing of it is done, no record is written, and the answer is 0");
        ExtendiblePages x = new ExtendiblePages(8);
        x.put(1, -1L);
        x.put(4, 4L);
        String before = Stores.answers(x);
        x.open();
        x.put(5, 5L);
        x.delete(4);
        x.put(1, 7L);
        x.put(2, -2L);
        x.put(3, -3L);
        CHECK.due("commit() to 11 pages", x.commit(), 0);
        CHECK.due("the answers after it", Stores.answers(x), before);
        x.open();
        x.put(2, -2L);
        CHECK.due("commit() with the refused step last", x.commit(), 0);
        CHECK.due("the answers after it", Stores.answers(x), before);
    }

    private static void commitRefusedWritesNoRecord() {
        CHECK.sentence("no record is written");
        for (int older = 58; older <= 64; older++) {
            ExtendiblePages x = Stores.withRecords(8, older);
            x.open();
            x.put(1, 7L);
            x.put(2, -2L);
            x.put(3, -3L);
            x.delete(4);
            x.delete(1);
            CHECK.due("commit() to 11 pages behind " + older, x.commit(), 0);
            CHECK.due("unflushed(), none flushed for it", x.unflushed(), older);
            CHECK.due("crash(10)", x.crash(10), older - 10);
            CHECK.due("get(1)", x.get(1), 10);
        }
    }

    private static void commitWritesItsRecords() {
        CHECK.sentence("Otherwise one record for every step and one for the batch are written, and the"
                + " answer is their number.");
        for (int steps = 1; steps <= 5; steps++) {
            ExtendiblePages x = new ExtendiblePages(50);
            x.put(1, 1L);
            x.open();
            for (int step = 0; step < steps; step++) {
                CHECK.due("a step", step % 2 == 0 ? x.put(1, 1L) : x.delete(2), 3);
            }
            CHECK.due("commit() of " + steps + " steps", x.commit(), steps + 1);
            CHECK.due("unflushed() after it", x.unflushed(), steps + 2);
            CHECK.due("crash of the last record", x.crash(steps + 1), steps + 1);
        }
    }

    private static void commitOfNoSteps() {
        CHECK.sentence("one record for every step and one for the batch are written");
        ExtendiblePages x = new ExtendiblePages(50);
        x.open();
        CHECK.due("commit() of no steps", x.commit(), 1);
        CHECK.due("unflushed()", x.unflushed(), 1);
        CHECK.due("steps()", x.steps(), NONE);
        CHECK.due("size()", x.size(), 0);
        CHECK.due("crash(0)", x.crash(0), 1);
        x = Stores.full(8);
        int older = x.unflushed();
        x.open();
        CHECK.due("commit() of no steps in a full store", x.commit(), 1);
        CHECK.due("unflushed() in a full store", x.unflushed(), older + 1);
    }

    private static void commitEndsTheBatch() {
        CHECK.sentence("In both cases the batch is open no more afterwards and its steps are gone.");
        ExtendiblePages x = new ExtendiblePages(50);
        x.open();
        x.put(1, 1L);
        x.delete(2);
        CHECK.due("commit()", x.commit(), 3);
        theBatchIsGone(x);
        CHECK.due("get(1)", x.get(1), 9);
    }

    private static void commitRefusedEndsTheBatch() {
        CHECK.sentence("In both cases the batch is open no more afterwards and its steps are gone.");
        ExtendiblePages x = new ExtendiblePages(8);
        x.put(1, 1L);
        x.open();
        x.put(2, -2L);
        x.put(3, -3L);
        CHECK.due("commit() to 11 pages", x.commit(), 0);
        theBatchIsGone(x);
        CHECK.due("has(2)", x.has(2), false);
    }

    private static void theBatchIsGone(ExtendiblePages x) {
        CHECK.due("steps()", x.steps(), NONE);
        CHECK.due("commit() again", x.commit(), NONE);
        CHECK.due("abandon()", x.abandon(), NONE);
        CHECK.due("put(1, 9), no step any more", x.put(1, 9L), 2);
        CHECK.due("open()", x.open(), true);
        CHECK.due("steps() of a new batch", x.steps(), 0);
        CHECK.due("commit() of a new batch", x.commit(), 1);
    }

    private static void commitWithoutABatch() {
        CHECK.sentence("Refused, NONE: no batch is open.");
        ExtendiblePages x = new ExtendiblePages(50);
        CHECK.due("commit() of a new object", x.commit(), NONE);
        CHECK.due("unflushed()", x.unflushed(), 0);
        x.put(1, 1L);
        CHECK.due("commit() after a put", x.commit(), NONE);
        CHECK.due("unflushed()", x.unflushed(), 1);
        x.open();
        x.put(2, 2L);
        x.abandon();
        CHECK.due("commit() after an abandon", x.commit(), NONE);
        x.open();
        x.put(2, 2L);
        x.crash(1);
        CHECK.due("commit() after a crash", x.commit(), NONE);
        CHECK.due("size()", x.size(), 1);
    }

    // Promise 9

    private static void abandonDropsTheSteps() {
        CHECK.sentence("The batch is open no more, its steps are dropped.");
        ExtendiblePages x = new ExtendiblePages(50);
        x.put(1, 1L);
        x.open();
        x.put(1, 2L);
        x.delete(1);
        x.put(2, 2L);
        x.abandon();
        CHECK.due("get(1)", x.get(1), 1);
        CHECK.due("unflushed()", x.unflushed(), 1);
        theBatchIsGone(x);
        CHECK.due("has(2)", x.has(2), false);
    }

    private static void abandonTellsHowManyItHad() {
        CHECK.sentence("Answers how many it had.");
        for (int steps = 0; steps <= 6; steps++) {
            ExtendiblePages x = new ExtendiblePages(50);
            x.open();
            for (int step = 0; step < steps; step++) {
                x.delete(step);
            }
            CHECK.due("abandon() after " + steps + " steps", x.abandon(), Math.min(steps, 5));
        }
    }

    private static void abandonWithoutABatch() {
        CHECK.sentence("Refused, NONE: no batch is open.");
        ExtendiblePages x = new ExtendiblePages(50);
        CHECK.due("abandon() of a new object", x.abandon(), NONE);
        x.put(1, 1L);
        CHECK.due("abandon() after a put", x.abandon(), NONE);
        CHECK.due("has(1)", x.has(1), true);
        CHECK.due("unflushed()", x.unflushed(), 1);
        x.open();
        x.put(2, 2L);
        x.abandon();
        CHECK.due("abandon() again", x.abandon(), NONE);
        x.open();
        x.commit();
        CHECK.due("abandon() after a commit", x.abandon(), NONE);
        x.open();
        x.crash(9);
        CHECK.due("abandon() after a crash", x.abandon(), NONE);
    }

    // Promise 13

    private static void stepsAreCounted() {
        CHECK.sentence("How many steps the batch has");
        ExtendiblePages x = new ExtendiblePages(50);
        x.open();
        for (int step = 0; step < 5; step++) {
            CHECK.due("steps()", x.steps(), step);
            CHECK.due("the same step again", step < 3 ? x.put(1, 1L) : x.delete(9), 3);
        }
        CHECK.due("steps(), as many as there may be", x.steps(), 5);
        x.put(1, 1L);
        CHECK.due("steps() after a refused put", x.steps(), 5);
        x.delete(1);
        CHECK.due("steps() after a refused delete", x.steps(), 5);
    }

    private static void stepsWithoutABatch() {
        CHECK.sentence("NONE when none is open.");
        ExtendiblePages x = new ExtendiblePages(50);
        CHECK.due("steps() of a new object", x.steps(), NONE);
        x.put(1, 1L);
        CHECK.due("steps() after a put", x.steps(), NONE);
        x.open();
        x.put(1, 1L);
        x.commit();
        CHECK.due("steps() after a commit", x.steps(), NONE);
        x.open();
        x.put(1, 1L);
        x.abandon();
        CHECK.due("steps() after an abandon", x.steps(), NONE);
        x.open();
        x.put(1, 1L);
        x.crash(0);
        CHECK.due("steps() after a crash", x.steps(), NONE);
    }
}
