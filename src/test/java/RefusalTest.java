import java.util.LinkedHashMap;
import java.util.Map;
import java.util.function.Consumer;
import java.util.function.Supplier;
import java.util.function.ToIntFunction;

/**
 * "A call that is refused changes nothing": of two objects with the same calls one has the refused
 * call besides, and both answer alike, at once and after calls that show records and steps.
 */
public final class RefusalTest {
    private static final int NONE = ExtendiblePages.NONE;
    private static final Check CHECK = new Check("RefusalTest");
    private static final Map<String, Consumer<ExtendiblePages>> AFTER = new LinkedHashMap<>();

    static {
        AFTER.put("no call", x -> { });
        for (int survive : new int[] {0, 1, 30, 59, 63, 64}) {
            AFTER.put("crash(" + survive + ")", x -> x.crash(survive));
        }
        AFTER.put("commit()", x -> x.commit());
        AFTER.put("commit() and crash(1)", x -> {
            x.commit();
            x.crash(1);
        });
        AFTER.put("open() and commit()", x -> {
            x.open();
            x.commit();
        });
        AFTER.put("put(1, 77)", x -> x.put(1, 77L));
    }

    public static void main(String[] args) {
        CHECK.sentence("A call that is refused changes nothing.");
        refusedPuts();
        refusedDeletes();
        refusedSteps();
        refusedOpen();
        refusedWithoutABatch();
        CHECK.finish();
    }

    private static void changesNothing(String call, Supplier<ExtendiblePages> make,
            ToIntFunction<ExtendiblePages> refused, int due) {
        for (Map.Entry<String, Consumer<ExtendiblePages>> after : AFTER.entrySet()) {
            ExtendiblePages without = make.get();
            ExtendiblePages with = make.get();
            CHECK.due(call, refused.applyAsInt(with), due);
            after.getValue().accept(without);
            after.getValue().accept(with);
            CHECK.due("all questions after " + call + " and " + after.getKey(),
                    Stores.answers(with), Stores.answers(without));
        }
    }

    private static void refusedPuts() {
        changesNothing("put of the 61st key", () -> Stores.ofOneHash(200, 3, 60),
                x -> x.put(Keys.withHash(3, 60), 5L), 0);
        changesNothing("put of the 61st key, of another hash", () -> Stores.ofOneHash(200, 3, 60),
                x -> x.put(Keys.withHash(35, 0), 5L), 0);
        changesNothing("put of too many pages", () -> Stores.full(8), x -> x.put(-7, -1L), 0);
        changesNothing("put of too many pages over a kept value", () -> Stores.full(8),
                x -> x.put(Keys.withHash(9, 1), -1L), 0);
        changesNothing("put that splits", () -> Stores.ofOneHash(8, 5, 5), x -> x.put(37, 1L), 0);
        changesNothing("put of too many pages behind 63", () -> nearlyFull(63), x -> x.put(2, -1L), 0);
        changesNothing("put of too many pages behind 64", () -> nearlyFull(64), x -> x.put(2, -1L), 0);
    }

    /** So many records, and 7 of 8 pages in use. */
    private static ExtendiblePages nearlyFull(int records) {
        ExtendiblePages x = Stores.withRecords(8, records - 1);
        x.put(3, -3L);
        return x;
    }

    private static void refusedDeletes() {
        changesNothing("delete of none", () -> new ExtendiblePages(8), x -> x.delete(0), 0);
        changesNothing("delete of a key that is not kept", () -> Stores.withRecords(50, 3),
                x -> x.delete(2), 0);
        changesNothing("delete behind 64", () -> Stores.withRecords(50, 64), x -> x.delete(2), 0);
    }

    /** Behind 64 records, five steps, which leave 2 and 4. */
    private static ExtendiblePages withFiveSteps() {
        ExtendiblePages x = Stores.withRecords(50, 64);
        x.open();
        x.put(2, 2L);
        x.delete(1);
        x.put(3, 3L);
        x.put(4, 4L);
        x.delete(3);
        return x;
    }

    private static void refusedSteps() {
        changesNothing("put as a sixth step", RefusalTest::withFiveSteps, x -> x.put(2, 9L), 0);
        changesNothing("put of a new key as a sixth step", RefusalTest::withFiveSteps,
                x -> x.put(9, 9L), 0);
        changesNothing("delete as a sixth step", RefusalTest::withFiveSteps, x -> x.delete(1), 0);
        changesNothing("delete of none as a sixth step", RefusalTest::withFiveSteps,
                x -> x.delete(9), 0);
    }

    private static void refusedOpen() {
        changesNothing("open() of an open one", RefusalTest::withFiveSteps, x -> x.open() ? 1 : 0, 0);
        changesNothing("open() of one without steps", () -> {
            ExtendiblePages x = Stores.withRecords(50, 2);
            x.open();
            return x;
        }, x -> x.open() ? 1 : 0, 0);
    }

    private static void refusedWithoutABatch() {
        for (int records : new int[] {0, 2, 64}) {
            changesNothing("commit() behind " + records, () -> Stores.withRecords(50, records),
                    x -> x.commit(), NONE);
            changesNothing("abandon() behind " + records, () -> Stores.withRecords(50, records),
                    x -> x.abandon(), NONE);
        }
    }
}
