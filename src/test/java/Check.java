/** Counts the answers that are not as due; a test ends with its finish. */
final class Check {
    private final String test;
    private String words = "";
    private int wrong;

    Check(String test) {
        this.test = test;
    }

    /** The words of the document that the answers from here on are about. */
    void sentence(String words) {
        this.words = words;
    }

    void due(String call, long got, long want) {
        if (got != want) {
            tell(call, Long.toString(got), Long.toString(want));
        }
    }

    void due(String call, boolean got, boolean want) {
        due(call, got ? 1L : 0L, want ? 1L : 0L);
    }

    void due(String call, String got, String want) {
        if (!got.equals(want)) {
            tell(call, got, want);
        }
    }

    boolean isClean() {
        return wrong == 0;
    }

    void finish() {
        System.out.println(wrong == 0 ? "all answers are as due" : wrong + " answers are not as due");
        if (wrong != 0) {
            System.exit(1);
        }
    }

    private void tell(String call, String got, String want) {
        wrong++;
        String by = words.isEmpty() ? "" : ", by \"" + words + "\"";
        System.out.println(test + ": " + call + " answered " + got + ", due is " + want + by);
    }
}
