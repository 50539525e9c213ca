/** Terms 2, sentence by sentence: at each bound that it names, and one step to each side. */
public final class Terms2Tests {
    private static final int NONE = Subject.NONE;

    private static final int WINDOW = 0;
    private static final int LIMIT = 1;
    private static final int NOTICE = 2;
    private static final int APPEAL = 5;

    private static final int STRUCK = 2;
    private static final int COUNTS = 3;
    private static final int OPEN = 4;

    private static final Check C = new Check();

    public static void main(String[] args) {
        sixtyMissed();
        sixtyHoles();
        sixtyLateChanges();
        numbered();
        firstCounts();
        noticeDays();
        behindTheLastThatCounts();
        behindNoStruckOne();
        asManyAsLimit();
        withinWindow();
        withinWindowOfThree();
        noneOpenAnyMore();
        openOutsideTheWindow();
        violationsAnewAfterOne();
        toldAnewBySettings();
        toldAnewByStruckOnes();
        points();
        pointsOfThoseOpen();
        appealInTime();
        appealOfStruckOne();
        C.finish();
    }

    /** What of each failure of athlete 0, and that there are no more. */
    private static void row(String name, Subject x, int what, int... due) {
        for (int k = 0; k < due.length; k++) {
            C.due(name + ", failure " + k + ", what " + what, x.failure(0, k, what), due[k]);
        }
        C.due(name + ", no more", x.failure(0, due.length, what), NONE);
    }

    private static Subject missedBy(int setting, int v, int... days) {
        Subject x = Subject.missedOn(days);
        if (x.count(10 + setting) != v) {
            C.due("set", x.set(setting, v), true);
        }
        return x;
    }

    // ---- "FAILURES of an ATHLETE, at most 60 (more are not noted), numbered as they came, each
    // with its DAY; they may be STRUCK."

    /** Two athletes, both filed for days 0 to 59, the first with so many failures on day 0. */
    private static Subject withMissed(int times) {
        Subject x = Subject.withAthletes(5, 6);
        x.file(0, 0, 59, 10, 1);
        x.file(1, 0, 59, 10, 1);
        x.at(0, 10);
        x.miss(0, times);
        return x;
    }

    private static void sixtyMissed() {
        C.part("at most 60 (more are not noted), of kind 2");
        Subject x = withMissed(58);
        for (int many = 59; many <= 60; many++) {
            C.due("missed", x.test(0, 1, false), 1);
            C.due("failures", x.of(0, 2), many);
            C.due("the last", x.failure(0, many - 1, 0), 0);
            C.due("none behind it", x.failure(0, many, 0), NONE);
        }
        for (int many = 61; many <= 62; many++) {
            C.due("missed", x.test(0, 1, false), 1);
            C.due("failures", x.of(0, 2), 60);
            C.due("tests", x.of(0, 5), many);
            C.due("missed ones", x.of(0, 6), many);
            C.due("not noted", x.failure(0, 60, 0), NONE);
        }
        C.due("of another athlete", x.test(1, 1, false), 1);
        C.due("are his", x.of(1, 2), 1);
        C.due("struck ones are failures, too", x.appeal(0, 7), true);
        C.due("missed", x.test(0, 1, false), 1);
        C.due("still 60", x.of(0, 2), 60);
    }

    private static void sixtyHoles() {
        C.part("at most 60 (more are not noted), of kind 0");
        for (int before = 57; before <= 60; before++) {
            Subject x = withMissed(before);
            C.due("filed for 30 to 59", x.at(30, 0), 0);
            // Both have failures on 60, 90 and 120; the first has no more than 60 in all.
            C.due("noted behind " + before, x.at(120, 0), 3 + Math.min(3, 60 - before));
            C.due("failures of the first", x.of(0, 2), 60);
            C.due("failures of the second", x.of(1, 2), 3);
        }
        Subject x = withMissed(59);
        C.due("one more of each", x.at(60, 0), 2);
        C.due("its kind", x.failure(0, 59, 1), 0);
        C.due("its day", x.failure(0, 59, 0), 60);
        C.due("a day behind", x.at(61, 0), 0);
        C.due("of the second alone", x.at(90, 0), 1);
    }

    private static void sixtyLateChanges() {
        C.part("at most 60 (more are not noted), of kind 1");
        for (int before = 58; before <= 60; before++) {
            Subject x = withMissed(before);
            x.set(3, 48);
            x.set(4, 0);
            C.due("two changes", x.file(0, 1, 2, 9, 1), 2);
            C.due("both late", x.of(0, 4), 2);
            C.due("failures", x.of(0, 2), 60);
            C.due("filed all the same", x.filed(0, 2, 0), 9);
            C.due("the last one's kind", x.failure(0, 59, 1), before < 60 ? 1 : 2);
        }
    }

    private static void numbered() {
        C.part("numbered as they came, each with its DAY");
        Subject x = Subject.withAthletes(5);
        x.file(0, 0, 29, 10, 1);
        x.set(4, 0);
        x.at(28, 10);
        x.test(0, 1, false);
        x.file(0, 29, 29, 9, 1);
        x.at(29, 9);
        x.test(0, 1, false);
        x.at(61, 0);
        row("days", x, 0, 28, 28, 29, 30, 60);
        row("kinds", x, 1, 2, 1, 2, 0, 0);
        row("struck", x, STRUCK, 0, 0, 0, 0, 0);
        C.due("-1", x.failure(0, -1, 0), NONE);
    }

    // ---- "One that is not STRUCK COUNTS, if it is the first such one, or its DAY is NOTICE DAYS
    // or more behind that of the last one ahead that COUNTS."

    private static void firstCounts() {
        C.part("if it is the first such one");
        row("on day 0", missedBy(NOTICE, 30, 0), COUNTS, 1);
        row("on the last day", missedBy(NOTICE, 30, 999), COUNTS, 1);
        Subject x = missedBy(NOTICE, 30, 5, 6, 7);
        row("of three", x, COUNTS, 1, 0, 0);
        x.appeal(0, 0);
        row("of two not struck", x, COUNTS, 0, 1, 0);
        x.appeal(0, 1);
        row("of one not struck", x, COUNTS, 0, 0, 1);
        x.appeal(0, 2);
        row("all struck", x, COUNTS, 0, 0, 0);
    }

    private static void noticeDays() {
        C.part("NOTICE DAYS or more behind");
        for (int notice : new int[] {1, 2, 3, 4, 29, 30}) {
            row("NOTICE " + notice + ", fewer", missedBy(NOTICE, notice, 7, 7 + notice - 1),
                COUNTS, 1, 0);
            row("NOTICE " + notice + ", as many", missedBy(NOTICE, notice, 7, 7 + notice),
                COUNTS, 1, 1);
            row("NOTICE " + notice + ", more", missedBy(NOTICE, notice, 7, 7 + notice + 1),
                COUNTS, 1, 1);
        }
        row("NOTICE 0, the same day", missedBy(NOTICE, 0, 7, 7, 7), COUNTS, 1, 1, 1);
        row("NOTICE 1, the same day", missedBy(NOTICE, 1, 7, 7, 8), COUNTS, 1, 0, 1);
        row("NOTICE 3 at first", Subject.missedOn(7, 9, 10), COUNTS, 1, 0, 1);
    }

    private static void behindTheLastThatCounts() {
        C.part("behind that of the last one ahead that COUNTS");
        // 2 does not count, so that 3 is held against 0; 5 is held against 3.
        row("not the last one", Subject.missedOn(0, 2, 3, 5, 6), COUNTS, 1, 0, 1, 0, 1);
        row("not the first one", Subject.missedOn(0, 4, 5, 6), COUNTS, 1, 1, 0, 0);
        // A violation closes those so far, but they still count and are still held against.
        row("one of a violation", missedBy(LIMIT, 2, 0, 3, 5, 6), COUNTS, 1, 1, 0, 1);
    }

    private static void behindNoStruckOne() {
        C.part("One that is not STRUCK");
        Subject x = Subject.missedOn(0, 2, 3, 5, 6);
        x.appeal(0, 2);
        row("struck 3: 5 is held against 0", x, COUNTS, 1, 0, 0, 1, 0);
        x.appeal(0, 0);
        row("struck 0, too: 2, 5", x, COUNTS, 0, 1, 0, 1, 0);
        x.appeal(0, 3);
        row("struck 5, too: 2, 6", x, COUNTS, 0, 1, 0, 0, 1);
    }

    // ---- "Gone through in order, those that COUNT are OPEN; at each one, on DAY d, if as many as
    // LIMIT are OPEN of DAYS behind d less WINDOW (it, too), there is a VIOLATION on d, and none so
    // far is OPEN any more."

    private static void asManyAsLimit() {
        C.part("if as many as LIMIT are OPEN");
        for (int limit = 2; limit <= 5; limit++) {
            Subject x = Subject.filedThroughout();
            x.set(LIMIT, limit);
            for (int many = 1; many <= 3 * limit + 1; many++) {
                x.missOn(3 * many);
                String name = "LIMIT " + limit + ", failures " + many;
                C.due(name, x.of(0, 3), many / limit);
                C.due(name + ", points", x.of(0, 1), many % limit);
                C.due(name + ", open", x.failure(0, many - 1, OPEN), many % limit == 0 ? 0 : 1);
                C.due(name + ", its day", x.violation(0, many / limit - 1),
                    many < limit ? NONE : 3 * (many / limit * limit));
            }
        }
        C.due("one that does not count is not open", missedBy(LIMIT, 2, 0, 2).of(0, 3), 0);
        C.due("nor makes it a violation", Subject.missedOn(0, 3, 5).of(0, 3), 0);
        C.due("LIMIT 3 at first, two", Subject.missedOn(0, 3).of(0, 3), 0);
        C.due("LIMIT 3 at first, three", Subject.missedOn(0, 3, 6).of(0, 3), 1);
    }

    private static void withinWindow() {
        C.part("OPEN of DAYS behind d less WINDOW (it, too)");
        for (int window : new int[] {1, 2, 3, 119, 120, 121, 399, 400}) {
            for (int step = -1; step <= 1; step++) {
                int day = 7 + window + step;
                Subject x = missedBy(WINDOW, window, 7, day);
                x.set(LIMIT, 2);
                x.set(NOTICE, 0);
                String name = "WINDOW " + window + ", days " + (window + step);
                C.due(name, x.of(0, 3), step < 0 ? 1 : 0);
                C.due(name + ", its day", x.violation(0, 0), step < 0 ? day : NONE);
                row(name, x, OPEN, step < 0 ? 0 : 1, step < 0 ? 0 : 1);
            }
        }
    }

    private static void withinWindowOfThree() {
        C.part("OPEN of DAYS behind d less WINDOW, of three");
        C.due("119 days from the first", Subject.missedOn(0, 10, 119).violation(0, 0), 119);
        C.due("120 days from the first", Subject.missedOn(0, 10, 120).violation(0, 0), NONE);
        C.due("then a third by the second", Subject.missedOn(0, 10, 120, 129).violation(0, 0), 129);
        C.due("then a third beside it", Subject.missedOn(0, 10, 120, 130).violation(0, 0), NONE);
        Subject x = Subject.missedOn(0, 10, 120, 130, 239);
        C.due("by the third of five", x.violation(0, 0), 239);
        C.due("once", x.of(0, 3), 1);
    }

    private static void noneOpenAnyMore() {
        C.part("and none so far is OPEN any more");
        row("two", Subject.missedOn(0, 3), OPEN, 1, 1);
        row("three", Subject.missedOn(0, 3, 6), OPEN, 0, 0, 0);
        row("four", Subject.missedOn(0, 3, 6, 9), OPEN, 0, 0, 0, 1);
        row("with one that does not count", Subject.missedOn(0, 3, 4, 6, 7, 9), OPEN,
            0, 0, 0, 0, 0, 1);
        // 0 is out of the window on 125, when 10, 120 and 125 make the violation.
        row("those out of the window, too", Subject.missedOn(0, 10, 120, 125, 128), OPEN,
            0, 0, 0, 0, 1);
    }

    private static void openOutsideTheWindow() {
        C.part("those that COUNT are OPEN (whatever WINDOW)");
        Subject x = Subject.missedOn(0, 3);
        x.at(119, 0);
        row("119 days", x, OPEN, 1, 1);
        x.at(120, 0);
        row("120 days", x, OPEN, 1, 1);
        x.at(999, 0);
        row("999 days", x, OPEN, 1, 1);
        C.due("but no points", x.of(0, 1), 0);
    }

    private static void violationsAnewAfterOne() {
        C.part("a VIOLATION on d, and the next");
        Subject x = Subject.missedOn(0, 3, 6, 9, 12);
        C.due("five", x.of(0, 3), 1);
        x.missOn(15);
        C.due("six", x.of(0, 3), 2);
        C.due("first", x.violation(0, 0), 6);
        C.due("second", x.violation(0, 1), 15);
        C.due("no third", x.violation(0, 2), NONE);
        Subject y = withMissed(60);
        y.set(NOTICE, 0);
        y.set(LIMIT, 2);
        C.due("the most there can be", y.of(0, 3), 30);
        C.due("the last", y.violation(0, 29), 0);
        C.due("none behind it", y.violation(0, 30), NONE);
    }

    // ---- "(By SETTINGS, STRUCK ones as they are: all told anew as these change.)"

    private static void toldAnewBySettings() {
        C.part("By SETTINGS as they are: all told anew");
        Subject x = Subject.missedOn(0, 3, 6, 9, 12, 15, 18);
        C.due("LIMIT 3", x.of(0, 3), 2);
        x.set(LIMIT, 4);
        C.due("LIMIT 4", x.of(0, 3), 1);
        C.due("LIMIT 4, its day", x.violation(0, 0), 9);
        row("LIMIT 4", x, OPEN, 0, 0, 0, 0, 1, 1, 1);
        x.set(WINDOW, 10);
        C.due("WINDOW 10 holds 0 to 9", x.of(0, 3), 1);
        x.set(WINDOW, 9);
        C.due("WINDOW 9 does not", x.of(0, 3), 0);
        row("WINDOW 9", x, OPEN, 1, 1, 1, 1, 1, 1, 1);
        C.due("points of 12, 15, 18", x.of(0, 1), 3);
        x.set(NOTICE, 4);
        row("NOTICE 4", x, COUNTS, 1, 0, 1, 0, 1, 0, 1);
        C.due("points of 12, 18", x.of(0, 1), 2);
        x.set(WINDOW, 120);
        x.set(LIMIT, 3);
        x.set(NOTICE, 3);
        C.due("as it was", x.of(0, 3), 2);
    }

    private static void toldAnewByStruckOnes() {
        C.part("STRUCK ones as they are: all told anew");
        Subject x = Subject.missedOn(0, 3, 6, 9, 12);
        C.due("one", x.violation(0, 0), 6);
        x.appeal(0, 4);
        C.due("one behind it struck", x.violation(0, 0), 6);
        x.appeal(0, 1);
        C.due("one of it struck: 0, 6, 9", x.violation(0, 0), 9);
        row("0, 6, 9", x, OPEN, 0, 0, 0, 0, 0);
        x.appeal(0, 0);
        C.due("another struck: 6, 9", x.violation(0, 0), NONE);
        C.due("points", x.of(0, 1), 2);
        row("6, 9", x, OPEN, 0, 0, 1, 1, 0);
    }

    // ---- "POINTS of an ATHLETE: how many are OPEN of DAYS behind DAY less WINDOW."

    private static void points() {
        C.part("POINTS: OPEN of DAYS behind DAY less WINDOW");
        for (int window : new int[] {1, 2, 120, 400}) {
            Subject x = missedBy(WINDOW, window, 7, 10);
            if (window > 4) {
                x.at(7 + window - 1, 23);
                C.due("WINDOW " + window + ", both", x.of(0, 1), 2);
                x.at(7 + window, 0);
                C.due("WINDOW " + window + ", one", x.of(0, 1), 1);
            }
            if (window > 1) {
                x.at(10 + window - 1, 23);
            }
            C.due("WINDOW " + window + ", the last day of it", x.of(0, 1), 1);
            x.at(10 + window, 0);
            C.due("WINDOW " + window + ", the day behind", x.of(0, 1), 0);
            x.at(10 + window + 1, 0);
            C.due("WINDOW " + window + ", two behind", x.of(0, 1), 0);
        }
        C.due("none at first", Subject.withAthletes(5).of(0, 1), 0);
    }

    private static void pointsOfThoseOpen() {
        C.part("POINTS: how many are OPEN");
        C.due("one of two counts", Subject.missedOn(7, 9).of(0, 1), 1);
        C.due("both count", Subject.missedOn(7, 10).of(0, 1), 2);
        C.due("none is open", Subject.missedOn(7, 10, 13).of(0, 1), 0);
        C.due("one is open", Subject.missedOn(7, 10, 13, 16).of(0, 1), 1);
        Subject x = Subject.missedOn(7, 10);
        x.appeal(0, 1);
        C.due("one is struck", x.of(0, 1), 1);
        Subject y = Subject.missedOn(0, 3, 6, 9);
        y.set(LIMIT, 5);
        C.due("the most there can be", y.of(0, 1), 4);
        y.missOn(12);
        C.due("one more", y.of(0, 1), 0);
    }

    // ---- "An APPEAL against a FAILURE STRIKES it, if DAY is no more than its DAY and APPEAL, and
    // it is not STRUCK."

    private static boolean appealAfter(int appeal, int days, int hour) {
        Subject x = Subject.missedOn(7);
        if (appeal != 14) {
            C.due("set", x.set(APPEAL, appeal), true);
        }
        if (days > 0 || hour > 10) {
            x.at(7 + days, hour);
        }
        boolean struck = x.appeal(0, 0);
        C.due("struck", x.failure(0, 0, STRUCK), struck ? 1 : 0);
        return struck;
    }

    private static void appealInTime() {
        C.part("if DAY is no more than its DAY and APPEAL");
        for (int appeal : new int[] {1, 2, 13, 14, 15, 59, 60}) {
            C.due("APPEAL " + appeal + ", at once", appealAfter(appeal, 0, 10), true);
            C.due("APPEAL " + appeal + ", a day less", appealAfter(appeal, appeal - 1, 23), true);
            C.due("APPEAL " + appeal + ", as many days", appealAfter(appeal, appeal, 0), true);
            C.due("APPEAL " + appeal + ", its last hour", appealAfter(appeal, appeal, 23), true);
            C.due("APPEAL " + appeal + ", a day more", appealAfter(appeal, appeal + 1, 0), false);
        }
    }

    private static void appealOfStruckOne() {
        C.part("and it is not STRUCK");
        Subject x = Subject.missedOn(7, 10);
        C.due("not struck", x.failure(0, 0, STRUCK), 0);
        C.due("appeal", x.appeal(0, 0), true);
        C.due("again", x.appeal(0, 0), false);
        C.due("struck it stays", x.failure(0, 0, STRUCK), 1);
        C.due("the other is not", x.failure(0, 1, STRUCK), 0);
        C.due("the other", x.appeal(0, 1), true);
        C.due("both are failures still", x.of(0, 2), 2);
        x.at(25, 0);
        C.due("again, too late", x.appeal(0, 0), false);
    }
}
