import java.util.Random;

/** All promises: long runs of calls by seed, every answer compared with the model's. */
public final class ModelTest {
    private static final int RUNS = 600;
    private static final int MOST_CALLS = 512;
    // What is left for a last look at everything.
    private static final int CALLS_OF_SWEEP = 170;

    private final Random random;
    private final Check check;
    private final int run;
    private final ExtendiblePages store;
    private final Model model;
    private final int[] pool;
    private final int changesOfTen;
    private final int valueBits;
    private final int crashOfHundred;

    private ModelTest(int run, Check check) {
        this.run = run;
        this.check = check;
        random = new Random(run);
        int pages = run % 3 == 0 ? 200 : random.nextInt(220) - 5;
        store = new ExtendiblePages(pages);
        model = new Model(pages);
        pool = keys(5 + random.nextInt(80), 1 + random.nextInt(64));
        changesOfTen = 4 + random.nextInt(6);
        valueBits = run % 3 == 0 ? 16 : 64;
        crashOfHundred = random.nextInt(6);
    }

    public static void main(String[] args) {
        Check check = new Check("ModelTest");
        for (int run = 0; run < RUNS && check.isClean(); run++) {
            ModelTest test = new ModelTest(run, check);
            for (int call = 0; call < MOST_CALLS - CALLS_OF_SWEEP && check.isClean(); call++) {
                test.callAny(call);
            }
            test.sweep();
        }
        check.finish();
    }

    /** Few hashes make long buckets, many make many. */
    private int[] keys(int count, int hashes) {
        int[] keys = new int[count];
        for (int i = 0; i < count; i++) {
            int high = random.nextInt() >> random.nextInt(27) & ~63;
            int hash = random.nextInt(hashes) * 37 & 63;
            keys[i] = high | hash ^ Keys.hash(high);
        }
        return keys;
    }

    private void callAny(int call) {
        String name = "run " + run + " call " + call + ": ";
        if (random.nextInt(100) < crashOfHundred) {
            int survive = random.nextInt(model.unflushed() + 4) - 2;
            due(name + "crash(" + survive + ")", store.crash(survive), model.crash(survive));
        } else if (random.nextInt(10) < changesOfTen) {
            callChange(name);
        } else {
            callQuestion(name, random.nextInt(14));
        }
    }

    private void callChange(String name) {
        int key = anyKey();
        switch (random.nextInt(16)) {
            case 0 -> due(name + "open()", store.open() ? 1 : 0, model.open() ? 1 : 0);
            case 1, 2 -> due(name + "commit()", store.commit(), model.commit());
            case 3 -> {
                if (random.nextInt(4) == 0) {
                    due(name + "abandon()", store.abandon(), model.abandon());
                } else if (random.nextInt(4) == 0) {
                    due(name + "flush()", store.flush(), model.flush());
                }
            }
            case 4, 5, 6 -> due(name + "delete(" + key + ")", store.delete(key), model.delete(key));
            default -> {
                long value = random.nextLong() >> random.nextInt(64) >>> 64 - valueBits;
                String put = name + "put(" + key + ", " + value + ")";
                due(put, store.put(key, value), model.put(key, value));
            }
        }
    }

    private void callQuestion(String name, int question) {
        int key = anyKey();
        int i = random.nextInt(70) - 3;
        switch (question) {
            case 0 -> due(name + "has(" + key + ")", store.has(key) ? 1 : 0, model.has(key) ? 1 : 0);
            case 1 -> due(name + "get(" + key + ")", store.get(key), model.get(key));
            case 2, 3 -> due(name + "reads(" + key + ")", store.reads(key), model.reads(key));
            case 4 -> due(name + "unflushed()", store.unflushed(), model.unflushed());
            case 5 -> due(name + "steps()", store.steps(), model.steps());
            case 6 -> due(name + "size()", store.size(), model.size());
            case 7 -> due(name + "pages()", store.pages(), model.pages());
            case 8 -> due(name + "globalDepth()", store.globalDepth(), model.globalDepth());
            case 9 -> due(name + "localDepth(" + key + ")", store.localDepth(key), model.localDepth(key));
            case 10 -> due(name + "buckets()", store.buckets(), model.buckets());
            case 11 -> due(name + "bucketAt(" + i + ")", store.bucketAt(i), model.bucketAt(i));
            default -> due(name + "keyAt(" + i + ")", store.keyAt(i), model.keyAt(i));
        }
    }

    private void sweep() {
        String name = "run " + run + " at its end: ";
        for (int question = 4; question <= 10; question++) {
            callQuestion(name, question);
        }
        for (int i = -1; i <= model.size(); i++) {
            due(name + "keyAt(" + i + ")", store.keyAt(i), model.keyAt(i));
        }
        for (int i = -1; i <= model.buckets(); i++) {
            due(name + "bucketAt(" + i + ")", store.bucketAt(i), model.bucketAt(i));
        }
        for (int n = 0; n < 20; n++) {
            callQuestion(name, n % 4);
        }
    }

    private int anyKey() {
        return random.nextInt(50) == 0 ? random.nextInt() : pool[random.nextInt(pool.length)];
    }

    private void due(String call, long got, long want) {
        check.due(call, got, want);
    }
}
