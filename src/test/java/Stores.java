/** Stores to begin a test with, and all that can be asked of one. */
final class Stores {
    private Stores() {
    }

    /** The keys Keys.withHash(hash, 0), .., all in one bucket, with values that have no pages. */
    static ExtendiblePages ofOneHash(int pages, int hash, int keys) {
        ExtendiblePages x = new ExtendiblePages(pages);
        for (int n = 0; n < keys; n++) {
            x.put(Keys.withHash(hash, n), 1L);
        }
        return x;
    }

    /** Keys of one hash, the lowest with a value of 4 pages, so many that the next needs a page more. */
    static ExtendiblePages full(int pages) {
        ExtendiblePages x = new ExtendiblePages(pages);
        int n = 0;
        for (long value : new long[] {-1L, 65536L, 1L}) {
            while (n < 60 && x.put(Keys.withHash(9, n), value) == 1) {
                n++;
            }
        }
        return x;
    }

    /** So many unflushed records, which gave the key 1 the values 1, 2, .. */
    static ExtendiblePages withRecords(int pages, int records) {
        ExtendiblePages x = new ExtendiblePages(pages);
        for (int n = 1; n <= records; n++) {
            x.put(1, n);
        }
        return x;
    }

    /** Every answer that tells of what is kept, the records and the batch; at most 200 calls. */
    static String answers(ExtendiblePages x) {
        StringBuilder text = new StringBuilder();
        text.append("size ").append(x.size()).append(", pages ").append(x.pages());
        text.append(", unflushed ").append(x.unflushed()).append(", steps ").append(x.steps());
        text.append(", global depth ").append(x.globalDepth()).append(", places");
        int buckets = x.buckets();
        for (int i = 0; i < buckets; i++) {
            text.append(' ').append(x.bucketAt(i));
        }
        text.append(", values");
        int size = x.size();
        for (int i = 0; i < size; i++) {
            int key = x.keyAt(i);
            text.append(' ').append(key).append('=').append(x.get(key));
        }
        return text.toString();
    }
}
