/** What the tests share: counting wrong answers, and putting a text on an object's tape. */
final class Check {
    private int wrong;
    private int asked;
    private String part = "";

    void part(String name) {
        part = name;
    }

    void due(String call, long got, long want) {
        asked++;
        if (got != want) {
            wrong++;
            if (wrong <= 50) {
                System.out.println(part + ": " + call + " answered " + got + ", due is " + want);
            }
        }
    }

    void due(String call, boolean got, boolean want) {
        due(call, got ? 1 : 0, want ? 1 : 0);
    }

    void holds(String what, boolean is) {
        due(what, is, true);
    }

    boolean allRight() {
        return wrong == 0;
    }

    void finish() {
        System.out.println(asked + " answers, " + wrong + " wrong");
        if (wrong != 0 || asked == 0) {
            System.exit(1);
        }
    }

    /** Feeds a text whose characters are its bytes; blanks fill the last feed and are cut off. */
    static void feed(WhereFound x, String text) {
        int before = x.count(3);
        for (int i = 0; i < text.length(); i += 20) {
            x.feed(four(text, i), four(text, i + 4), four(text, i + 8),
                four(text, i + 12), four(text, i + 16));
        }
        x.end(before + text.length());
    }

    static int tell(WhereFound x, String text) {
        feed(x, text);
        return x.tell();
    }

    private static int four(String text, int from) {
        int number = 0;
        for (int i = from; i < from + 4; i++) {
            number = number << 8 | (i < text.length() ? text.charAt(i) & 255 : 32);
        }
        return number;
    }

    /** of(), or Integer.MIN_VALUE for the NoSuchElementException that is due. */
    static int of(WhereFound x, int athlete, int what) {
        try {
            return x.of(athlete, what);
        } catch (java.util.NoSuchElementException e) {
            return e.getClass() == java.util.NoSuchElementException.class
                ? Integer.MIN_VALUE : Integer.MAX_VALUE;
        }
    }
}
