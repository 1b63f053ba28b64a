/** Keys by their hash. */
final class Keys {
    private Keys() {
    }

    static int hash(int key) {
        int hash = 0;
        for (int shift = 0; shift <= 30; shift += 6) {
            hash ^= key >>> shift;
        }
        return hash & 63;
    }

    /** A key with the hash; another one for every n from 0 on, ascending with n. */
    static int withHash(int hash, int n) {
        return n << 6 | hash ^ hash(n);
    }
}
