/** An object of the class whose calls are counted, since nothing is promised beyond 512 of them. */
final class Subject {
    static final int NONE = -1;
    /** What of() answers here for the NoSuchElementException that is due. */
    static final int THROWS = Integer.MIN_VALUE;
    static final int LEAST = Integer.MIN_VALUE;
    static final int MOST = Integer.MAX_VALUE;
    static final int PROMISED_CALLS = 512;

    private final WhereFound object = new WhereFound();
    private int calls;

    // ---- objects to start from

    static Subject withAthletes(int... risks) {
        Subject x = new Subject();
        for (int risk : risks) {
            x.athlete(risk);
        }
        return x;
    }

    /** An athlete who has filed hour 10, place 1 for each day, so that no quarter has a hole. */
    static Subject filedThroughout() {
        Subject x = withAthletes(5);
        for (int day = 0; day < 1100; day += 50) {
            x.file(0, day, day + 49, 10, 1);
        }
        return x;
    }

    /** An athlete, filed throughout, with a missed test on each of these days. */
    static Subject missedOn(int... days) {
        Subject x = filedThroughout();
        for (int day : days) {
            x.missOn(day);
        }
        return x;
    }

    void missOn(int day) {
        if (count(1) != day || count(2) != 10) {
            at(day, 10);
        }
        test(0, 1, false);
    }

    void miss(int athlete, int times) {
        for (int i = 0; i < times; i++) {
            test(athlete, 1, false);
        }
    }

    // ---- texts

    /** Feeds a text whose characters are its bytes; blanks fill the last feed and are cut off. */
    void feed(String text) {
        int before = count(3);
        for (int i = 0; i < text.length(); i += 20) {
            feed(four(text, i), four(text, i + 4), four(text, i + 8),
                four(text, i + 12), four(text, i + 16));
        }
        end(before + text.length());
    }

    int tell(String text) {
        feed(text);
        return tell();
    }

    static int four(String text, int from) {
        int number = 0;
        for (int i = from; i < from + 4; i++) {
            number = number << 8 | (i < text.length() ? text.charAt(i) & 255 : 32);
        }
        return number;
    }

    // ---- all that can be seen

    /** All but fault(), the tape and what is filed, and that for these days. */
    String state(int... days) {
        StringBuilder b = new StringBuilder();
        for (int what : new int[] {0, 1, 2, 10, 11, 12, 13, 14, 15}) {
            b.append(count(what)).append(' ');
        }
        int athletes = count(0);
        for (int a = 0; a < athletes; a++) {
            b.append('|');
            for (int what = 0; what < 10; what++) {
                b.append(of(a, what)).append(' ');
            }
            int failures = of(a, 2);
            for (int k = 0; k < failures; k++) {
                b.append(failure(a, k, 0)).append(' ').append(failure(a, k, 1)).append(' ');
                b.append(failure(a, k, 2)).append(' ');
            }
            for (int day : days) {
                b.append(filed(a, day, 0)).append(' ').append(filed(a, day, 1)).append(' ');
            }
        }
        return b.toString();
    }

    int calls() {
        return calls;
    }

    private WhereFound used() {
        calls++;
        if (calls > PROMISED_CALLS) {
            throw new IllegalStateException("a test uses an object for more than 512 calls");
        }
        return object;
    }

    // ---- the face

    int feed(int a, int b, int c, int d, int e) {
        return used().feed(a, b, c, d, e);
    }

    boolean end(int n) {
        return used().end(n);
    }

    int tell() {
        return used().tell();
    }

    int fault() {
        return used().fault();
    }

    int athlete(int risk) {
        return used().athlete(risk);
    }

    boolean set(int setting, int v) {
        return used().set(setting, v);
    }

    int at(int day, int hour) {
        return used().at(day, hour);
    }

    int file(int athlete, int a, int b, int hour, int place) {
        return used().file(athlete, a, b, hour, place);
    }

    int test(int athlete, int place, boolean found) {
        return used().test(athlete, place, found);
    }

    boolean appeal(int athlete, int failure) {
        return used().appeal(athlete, failure);
    }

    int count(int what) {
        return used().count(what);
    }

    int of(int athlete, int what) {
        try {
            return used().of(athlete, what);
        } catch (java.util.NoSuchElementException e) {
            return e.getClass() == java.util.NoSuchElementException.class ? THROWS : MOST;
        }
    }

    int filed(int athlete, int day, int what) {
        return used().filed(athlete, day, what);
    }

    int failure(int athlete, int k, int what) {
        return used().failure(athlete, k, what);
    }

    int violation(int athlete, int k) {
        return used().violation(athlete, k);
    }

    int hole(int athlete, int quarter) {
        return used().hole(athlete, quarter);
    }

    int lot(int seed, int n) {
        return used().lot(seed, n);
    }

    int chance(int athlete, boolean under) {
        return used().chance(athlete, under);
    }

    int round(int day, int hour, int what) {
        return used().round(day, hour, what);
    }

    int there(int day, int hour, int place) {
        return used().there(day, hour, place);
    }

    int danger(int athlete) {
        return used().danger(athlete);
    }

    int easier(int athlete) {
        return used().easier(athlete);
    }

    int without(int athlete, int failure) {
        return used().without(athlete, failure);
    }

    int worst() {
        return used().worst();
    }
}
