/** Counts answers and tells the wrong ones. */
final class Check {
    private int wrong;
    private int asked;
    private String part = "";

    void part(String name) {
        part = name;
    }

    void due(String call, long got, long want) {
        asked++;
        if (got != want) {
            told(call, "" + got, "" + want);
        }
    }

    private void told(String call, String got, String want) {
        wrong++;
        if (wrong <= 50) {
            System.out.println(part + ": " + call + " answered " + got + ", due is " + want);
        }
    }

    void due(String call, boolean got, boolean want) {
        due(call, got ? 1 : 0, want ? 1 : 0);
    }

    void due(String call, String got, String want) {
        asked++;
        if (!got.equals(want)) {
            told(call, got, want);
        }
    }

    void holds(String what, boolean is) {
        due(what, is, true);
    }

    boolean allRight() {
        return wrong == 0;
    }

    void finish() {
        System.out.println(asked + " answers, " + wrong + " wrong");
        if (wrong != 0 || asked == 0) {
            System.exit(1);
        }
    }
}
