/** Counts answers that are not the ones that are due, and tells each of them. */
final class Check {
    private final String test;
    private int asked = 0;
    private int wrong = 0;

    Check(String test) {
        this.test = test;
    }

    void due(String call, long want, long got) {
        asked++;
        if (want != got) {
            wrong++;
            System.out.println(test + ": " + call + " answered " + got + ", due is " + want);
        }
    }

    void due(String call, boolean want, boolean got) {
        due(call, want ? 1 : 0, got ? 1 : 0);
    }

    void due(String call, String want, String got) {
        asked++;
        if (!want.equals(got)) {
            wrong++;
            System.out.println(test + ": " + call + " answered " + got + ", due is " + want);
        }
    }

    int wrong() {
        return wrong;
    }

    /** Ends the program: exit code 1, if an answer was wrong or none was asked for. */
    void close() {
        System.out.println(test + ": " + asked + " answers, " + wrong + " wrong");
        System.exit(wrong == 0 && asked > 0 ? 0 : 1);
    }
}
