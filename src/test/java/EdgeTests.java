/** Promises 1 to 25, each edge that one names: at it, and one step to each side of it. */
public final class EdgeTests {
    private static final int NONE = Subject.NONE;
    private static final int THROWS = Subject.THROWS;
    private static final int LEAST = Subject.LEAST;
    private static final int MOST = Subject.MOST;
    private static final int BLANKS = 0x20202020;
    /** Hours of which 10 times make 50 and 54, as 5 and a place do, if ints wrap. */
    private static final int AS_FIVE = -2147483643;
    private static final int NEAR_FIVE = 429496735;
    private static final int[] DAYS = {0, 1, 2, 3, 4, 5, 29, 30, 59, 60};

    private static final Check C = new Check();

    public static void main(String[] args) {
        calls512();
        newObject();
        feedOfBytes();
        feedTooMuch();
        end();
        endThenFeed();
        tellEmpties();
        tellHowMany();
        tellFault();
        tellFaultWhenFull();
        tellFaultOfAthlete();
        faultOfLatest();
        athlete();
        set();
        atHowMany();
        atNone();
        fileHowMany();
        fileNone();
        test();
        appeal();
        count();
        ofAtFirst();
        ofEach();
        ofNone();
        filed();
        failure();
        violation();
        hole();
        lot();
        chance();
        round();
        roundOfAllHours();
        there();
        dangerByLimit();
        dangerByNotice();
        dangerByWindow();
        dangerOfSixty();
        easier();
        easierNone();
        without();
        worst();
        athletesApart();
        refusedCallsChangeNothing();
        questionsChangeNothing();
        C.finish();
    }

    // ---- "An object is used for at most 512 calls after it has been made"

    private static void calls512() {
        C.part("at most 512 calls");
        Subject x = Subject.withAthletes(5, 5, 5, 5, 5, 5);
        for (int i = 0; i < 6; i++) {
            x.file(i, 1, 60, 10, 1);
        }
        for (int i = 0; x.calls() + 3 <= 508; i++) {
            x.at(1 + i / 24, i % 24);
            x.test(i % 6, 1, false);
            x.appeal(i % 6, i / 60);
        }
        while (x.calls() < 508) {
            x.worst();
        }
        x.feed(Subject.four("set ", 0), Subject.four("1 5;", 0), BLANKS, BLANKS, BLANKS);
        C.due("510th", x.tell() * 10 + x.calls(), 10 + 510);
        C.due("511th", x.set(1, 4), true);
        C.due("512th", x.count(11), 4);
        WhereFound y = new WhereFound();
        for (int i = 0; i < 2000; i++) {
            y.athlete(1 + i % 9);
            y.at(i, i % 24);
            y.file(i % 6, i, i, 12, 1);
            y.test(i % 6, 1, false);
            y.feed(i, i, i, i, i);
            y.tell();
        }
        C.holds("none throws beyond them", y.worst() >= LEAST);
    }

    // ---- promise 1: "No ATHLETES."

    private static void newObject() {
        C.part("1 No ATHLETES");
        Subject x = new Subject();
        C.due("count", x.count(0), 0);
        C.due("of", x.of(0, 0), THROWS);
        C.due("filed", x.filed(0, 0, 0), NONE);
        C.due("failure", x.failure(0, 0, 0), NONE);
        C.due("violation", x.violation(0, 0), NONE);
        C.due("hole", x.hole(0, 0), NONE);
        C.due("lot of none", x.lot(0, 0), NONE);
        C.due("lot of one", x.lot(0, 1), NONE);
        C.due("chance", x.chance(0, false), NONE);
        C.due("chance, under", x.chance(0, true), NONE);
        C.due("danger", x.danger(0), NONE);
        C.due("easier", x.easier(0), NONE);
        C.due("without", x.without(0, 0), NONE);
        C.due("worst", x.worst(), NONE);
        C.due("file", x.file(0, 1, 1, 10, 1), NONE);
        C.due("test", x.test(0, 1, true), NONE);
        C.due("appeal", x.appeal(0, 0), false);
        C.due("round", x.round(0, 10, 0), NONE);
        C.due("hours of a round", x.round(0, NONE, 0), 0);
        C.due("those whom it meets", x.round(0, NONE, 1), 0);
        C.due("there", x.there(0, 10, 0), 0);
        C.due("bytes", x.count(3), 0);
        C.due("to the last day", x.at(999, 23), 0);
        Subject.withAthletes(5);
        C.due("those of another object are its own", x.count(0), 0);
    }

    // ---- promise 2: "Twenty bytes come behind the TAPE, of each number the highest first: how
    // many it has. NONE, and none come: more than 400."

    private static void feedOfBytes() {
        C.part("2 of each number the highest first");
        Subject x = new Subject();
        C.due("feed", x.feed('s' << 24 | 'e' << 16 | 't' << 8 | ' ',
            '0' << 24 | ' ' << 16 | '1' << 8 | '2', '3' << 24 | ';' << 16 | 's' << 8 | 'e',
            't' << 24 | '1' << 16 | ' ' << 8 | '5', ';' << 24 | ' ' << 16 | 10 << 8 | ' '), 20);
        C.due("tell", x.tell(), 2);
        C.due("WINDOW", x.count(10), 123);
        C.due("LIMIT", x.count(11), 5);
        // Of a number below 0 the highest byte is 128 or more, and each byte has 8 bits alone.
        for (int i = 0; i < 5; i++) {
            for (int shift = 24; shift >= 0; shift -= 8) {
                int[] five = {BLANKS, BLANKS, BLANKS, BLANKS, BLANKS};
                five[i] = BLANKS & ~(255 << shift) | 255 << shift;
                x.feed(five[0], five[1], five[2], five[3], five[4]);
                C.due("byte 255", x.tell(), NONE);
                C.due("its place", x.fault(), 1 + 8 * (4 * i + 3 - shift / 8));
            }
        }
    }

    private static void feedTooMuch() {
        C.part("2 NONE, and none come: more than 400");
        Subject x = new Subject();
        for (int i = 1; i <= 20; i++) {
            C.due("feed " + i, x.feed(BLANKS, BLANKS, BLANKS, BLANKS, BLANKS), 20 * i);
            C.due("bytes", x.count(3), 20 * i);
        }
        C.due("beyond 400", x.feed(0, 0, 0, 0, 0), NONE);
        C.due("none came", x.count(3), 400);
        for (int n = 399; n >= 381; n -= 6) {
            C.due("end", x.end(n), true);
            C.due("beyond " + n, x.feed(0, 0, 0, 0, 0), NONE);
            C.due("none came", x.count(3), n);
        }
        C.due("end", x.end(380), true);
        C.due("up to 400", x.feed(BLANKS, BLANKS, BLANKS, BLANKS, BLANKS), 400);
        C.due("end", x.end(379), true);
        C.due("up to 399", x.feed(BLANKS, BLANKS, BLANKS, BLANKS, BLANKS), 399);
        C.due("none of those that did not come is told", x.tell(), 0);
        C.due("from 0 again", x.feed(0, 0, 0, 0, 0), 20);
    }

    // ---- promise 3: "The TAPE has its first n bytes alone: true. false: it has not so many, n is
    // below 0."

    private static void end() {
        C.part("3 false: it has not so many, n is below 0");
        Subject x = new Subject();
        C.due("empty, 1", x.end(1), false);
        C.due("empty, 0", x.end(0), true);
        C.due("empty, -1", x.end(-1), false);
        x.feed(BLANKS, BLANKS, BLANKS, BLANKS, BLANKS);
        for (int n : new int[] {LEAST, -2, -1, 21, 22, 400, 401, MOST}) {
            C.due("20, " + n, x.end(n), false);
            C.due("stays", x.count(3), 20);
        }
        for (int n : new int[] {20, 19, 1, 0}) {
            C.due("20, " + n, x.end(n), true);
            C.due("bytes", x.count(3), n);
            C.due("one more than it has", x.end(n + 1), false);
        }
        for (int i = 0; i < 20; i++) {
            x.feed(BLANKS, BLANKS, BLANKS, BLANKS, BLANKS);
        }
        C.due("400, 401", x.end(401), false);
        C.due("400, 400", x.end(400), true);
        C.due("400, 399", x.end(399), true);
        C.due("bytes", x.count(3), 399);
    }

    private static void endThenFeed() {
        C.part("3 its first n bytes alone");
        Subject x = new Subject();
        x.feed("athlete 4;athlete 5;");
        C.due("its first 10", x.end(10), true);
        C.due("tell", x.tell(), 1);
        C.due("the first", x.of(0, 0), 4);
        x.feed("athlete 9;athlete 5;");
        x.end(8);
        x.feed("3;athlete 6;");
        C.due("others come behind those", x.count(3), 20);
        C.due("tell", x.tell(), 2);
        C.due("3, not 9", x.of(1, 0), 3);
        C.due("6, not 5", x.of(2, 0), 6);
        x.feed("athlete 9;");
        x.end(0);
        C.due("none is left", x.tell(), 0);
    }

    // ---- promise 4: "The TAPE (empty then) is told: how many STATEMENTS. NONE: a FAULT (all else
    // stays as it was ahead of the TEXT)."

    private static void tellEmpties() {
        C.part("4 empty then");
        Subject x = new Subject();
        C.due("tell", x.tell("at 0 5;"), 1);
        C.due("bytes", x.count(3), 0);
        C.due("nothing is told again", x.tell(), 0);
        C.due("a fault", x.tell("at 0 5;"), NONE);
        C.due("bytes", x.count(3), 0);
        C.due("nothing is told again", x.tell(), 0);
        C.due("nothing is a fault again", x.fault(), 0);
    }

    private static void tellHowMany() {
        C.part("4 how many STATEMENTS");
        Subject x = new Subject();
        C.due("none", x.tell(), 0);
        C.due("blanks", x.tell("   "), 0);
        C.due("one", x.tell("set 0 1;"), 1);
        C.due("two", x.tell("set 0 2;set 0 3;"), 2);
        C.due("one that changes nothing", x.tell("set 0 3;"), 1);
        StringBuilder all = new StringBuilder();
        for (int i = 0; i < 50; i++) {
            all.append("set 0 ").append(i % 9 + 1).append(';');
        }
        C.due("fifty", x.tell(all.toString()), 50);
    }

    private static Subject inTheMiddle() {
        Subject x = Subject.withAthletes(2);
        x.file(0, 0, 59, 12, 1);
        x.at(1, 0);
        x.athlete(9);
        x.file(1, 1, 3, 20, 7);
        x.at(3, 12);
        x.test(0, 1, false);
        x.file(0, 4, 4, 11, 1);
        x.appeal(0, 0);
        x.test(0, 1, false);
        x.set(0, 100);
        return x;
    }

    private static void tellFault() {
        C.part("4 all else stays as it was ahead of the TEXT");
        String[] each = {"athlete 5;", "set 0 7;set 1 2;set 2 0;set 3 1;set 4 0;set 5 1;",
            "at 3 13;", "at 31 0;", "at 999 23;", "file 0 4 5 13 3;", "file 1 3 60 22 9;",
            "test 0 1 missed;", "test 0 1 found;", "test 0 2 missed;", "appeal 0 1;",
            "set 4 0;file 0 4 4 13 1;", "athlete 5;file 2 4 63 9 9;at 4 9;test 2 9 missed;"};
        String before = inTheMiddle().state(DAYS);
        for (String text : each) {
            Subject x = inTheMiddle();
            C.due("told: " + text, x.tell(text) > 0, true);
            C.holds("is another then", !x.state(DAYS).equals(before));
            for (String wrong : new String[] {"x", ";", "athlete 0;", "at 0 0;"}) {
                Subject y = inTheMiddle();
                C.due("a fault: " + text + wrong, y.tell(text + wrong), NONE);
                C.due("stays: " + text + wrong, y.state(DAYS), before);
            }
        }
        Subject x = inTheMiddle();
        for (int i = 0; i < 3; i++) {
            C.due("once more", x.tell("athlete 5;test 0 1 missed;at 0 0;"), NONE);
        }
        C.due("stays", x.state(DAYS), before);
    }

    /** Six athletes, the last with 60 failures, other settings, a filing for the last day. */
    private static Subject full() {
        Subject x = Subject.withAthletes(1, 2, 3, 4, 5, 6);
        int[] settings = {130, 4, 0, 30, 3, 20};
        for (int i = 0; i < 6; i++) {
            x.set(i, settings[i]);
        }
        x.file(5, 0, 0, 10, 1);
        x.file(5, 1099, 1099, 22, 9);
        x.at(0, 10);
        x.miss(5, 60);
        x.appeal(5, 0);
        x.appeal(5, 59);
        return x;
    }

    private static void tellFaultWhenFull() {
        C.part("4 all else stays: 6 ATHLETES, 60 FAILURES, DAY 1099, each SETTING");
        String before = full().state(0, 1, 1098, 1099);
        String spoil = "set 0 1;set 1 2;set 2 9;set 3 1;set 4 0;set 5 1;appeal 5 58;appeal 5 1;"
            + "test 5 1 missed;file 5 1098 1099 5 0;file 0 1099 1099 5 0;at 999 23;";
        for (int times = 1; times <= 2; times++) {
            Subject x = full();
            for (int i = 0; i < times; i++) {
                C.due("a fault", x.tell(spoil + "x"), NONE);
            }
            C.due("stays, " + times, x.state(0, 1, 1098, 1099), before);
            C.due("told without it", x.tell(spoil), 12);
            C.due("is struck then", x.failure(5, 58, 2), 1);
        }
    }

    /** An athlete whom a text with a fault brought leaves nothing to the next one. */
    private static void tellFaultOfAthlete() {
        C.part("4 all else stays: an ATHLETE who was to come");
        String spoil = "set 4 0;athlete 9;file 1 4 30 12 3;file 1 4 4 11 3;file 1 4 5 10 3;"
            + "at 4 10;test 1 3 missed;test 1 3 missed;appeal 1 0;appeal 1 1;appeal 1 2;";
        Subject x = Subject.withAthletes(2);
        x.at(3, 12);
        for (int i = 0; i < 2; i++) {
            C.due("a fault", x.tell(spoil + "x"), NONE);
            C.due("no such athlete", x.of(1, 0), THROWS);
            C.due("nothing filed", x.there(10, 12, 3), 0);
        }
        Subject y = Subject.withAthletes(2);
        y.at(3, 12);
        for (Subject one : new Subject[] {x, y}) {
            one.athlete(4);
        }
        C.due("another one comes", x.state(DAYS), y.state(DAYS));
        for (Subject one : new Subject[] {x, y}) {
            one.set(4, 0);
            one.file(1, 4, 9, 12, 3);
            one.file(1, 4, 4, 11, 3);
            one.at(4, 11);
            one.test(1, 3, false);
        }
        C.due("failures of his own", x.state(DAYS), y.state(DAYS));
        C.due("not struck", x.failure(1, 0, 2) + x.failure(1, 1, 2), 0);
        Subject z = Subject.withAthletes(2);
        for (int i = 0; i < 2; i++) {
            C.due("a fault behind five more", z.tell("athlete 5;athlete 6;athlete 7;athlete 8;"
                + "athlete 9;file 5 0 0 12 3;at 0 12;test 5 3 missed;test 2 3 found;x"), NONE);
        }
        for (int athlete = 1; athlete < 6; athlete++) {
            C.due("none such: " + athlete, z.of(athlete, 0), THROWS);
            C.due("none such: " + athlete, z.chance(athlete, true), NONE);
            C.due("none such: " + athlete, z.filed(athlete, 0, 0), NONE);
            C.due("none such: " + athlete, z.failure(athlete, 0, 0), NONE);
            C.due("none such: " + athlete, z.hole(athlete, 0), NONE);
            C.due("none such: " + athlete, z.danger(athlete), NONE);
            C.due("none such: " + athlete, z.test(athlete, 3, true), NONE);
            C.due("none such: " + athlete, z.file(athlete, 1, 1, 10, 1), NONE);
        }
        C.due("nor are more drawn", z.lot(0, 2), NONE);
        C.due("nor weighed", z.chance(0, true), 1);
        C.due("nor met", z.round(0, NONE, 1), 0);
    }

    // ---- promise 5: "FAULT of the latest tell(); 0 without, and ahead of any."

    private static void faultOfLatest() {
        C.part("5 FAULT of the latest tell(); 0 without, and ahead of any");
        Subject x = new Subject();
        C.due("ahead of any", x.fault(), 0);
        x.feed("  x");
        C.due("fed, not told", x.fault(), 0);
        x.tell();
        C.due("told", x.fault(), 1 + 8 * 2);
        C.due("asked again", x.fault(), 1 + 8 * 2);
        x.feed("y");
        x.athlete(0);
        x.at(0, 0);
        x.end(-1);
        C.due("of a tell(), not of calls that are refused", x.fault(), 1 + 8 * 2);
        x.tell();
        C.due("of the latest", x.fault(), 1);
        x.tell("athlete 0;");
        C.due("of the latest", x.fault(), 2 + 8 * 8);
        x.tell("athlete 1;");
        C.due("without", x.fault(), 0);
        x.tell("at 0 0;");
        C.due("of the latest", x.fault(), 3);
        x.tell();
        C.due("without, of an empty tape", x.fault(), 0);
    }

    // ---- promise 6: "An ATHLETE more: the number. NONE: RISK can't be; -2: there are 6."

    private static void athlete() {
        C.part("6 NONE: RISK can't be; -2: there are 6");
        Subject x = new Subject();
        for (int i = 0; i < 6; i++) {
            C.due("risk 0, there are " + i, x.athlete(0), NONE);
            C.due("risk 10, there are " + i, x.athlete(10), NONE);
            C.due("the number", x.athlete(i + 1), i);
        }
        C.due("there are 6, risk 1", x.athlete(1), -2);
        C.due("there are 6, risk 9", x.athlete(9), -2);
        C.due("there are 6, risk 0", x.athlete(0), NONE);
        C.due("there are 6, risk 10", x.athlete(10), NONE);
        C.due("still 6", x.count(0), 6);
        C.due("the last one's risk", x.of(5, 0), 6);
    }

    // ---- promise 7: "A SETTING is another number: true. false: it is so, there is none such, it
    // can't be."

    private static void set() {
        C.part("7 false: it is so, there is none such, it can't be");
        Subject x = new Subject();
        int[] atFirst = {120, 3, 3, 24, 2, 14};
        for (int i = 0; i < 6; i++) {
            C.due("it is so", x.set(i, atFirst[i]), false);
            C.due("one less", x.set(i, atFirst[i] - 1), true);
            C.due("it is so", x.set(i, atFirst[i] - 1), false);
            C.due("as it was", x.set(i, atFirst[i]), true);
            C.due("one more", x.set(i, atFirst[i] + 1), true);
            C.due("is", x.count(10 + i), atFirst[i] + 1);
        }
        for (int setting : new int[] {LEAST, -1, 6, 7, 10, MOST}) {
            for (int v : new int[] {0, 1, 2, 3, 5}) {
                C.due("none such: " + setting, x.set(setting, v), false);
            }
        }
        C.due("it can't be", x.set(1, 1), false);
        C.due("it can't be", x.set(1, 6), false);
        C.due("stays", x.count(11), 4);
    }

    // ---- promise 8: "TIME goes on to DAY, HOUR: how many FAILURES came (were noted). NONE: it
    // can't be, it is not behind now."

    private static void atHowMany() {
        C.part("8 how many FAILURES came (were noted)");
        Subject x = Subject.withAthletes(1, 2, 3, 4, 5, 6);
        C.due("none", x.at(29, 23), 0);
        C.due("one of each", x.at(30, 0), 6);
        x.file(0, 60, 89, 10, 1);
        C.due("one has filed", x.at(60, 0), 5);
        C.due("two quarters", x.at(120, 0), 12);
        C.due("none", x.at(120, 1), 0);
        Subject y = Subject.withAthletes(1, 1);
        y.file(0, 0, 0, 10, 1);
        y.at(0, 10);
        y.miss(0, 59);
        C.due("both are noted", y.at(30, 0), 2);
        C.due("a 61st is not", y.at(60, 0), 1);
        C.due("nor are others", y.at(999, 0), 31);
    }

    private static void atNone() {
        C.part("8 NONE: it can't be, it is not behind now");
        Subject x = Subject.withAthletes(5);
        x.at(40, 12);
        int[][] wrong = {{40, 12}, {40, 11}, {40, 0}, {39, 23}, {39, 12}, {0, 0}, {40, 24},
            {40, 36}, {41, -1}, {41, -12}, {1000, 0}, {1000, 12}, {-1, 0}, {-1, 24},
            {41, 24}, {MOST, 5}, {LEAST, 5}, {41, MOST}, {41, LEAST}, {MOST, MOST}};
        for (int[] one : wrong) {
            C.due("at " + one[0] + " " + one[1], x.at(one[0], one[1]), NONE);
            C.due("DAY stays", x.count(1), 40);
            C.due("HOUR stays", x.count(2), 12);
        }
        C.due("none came", x.of(0, 2), 1);
        C.due("an hour on", x.at(40, 13), 0);
        C.due("a day on, an hour that was", x.at(41, 0), 0);
    }

    // ---- promise 9: "An ATHLETE FILES for DAYS a to b: how many CHANGES. NONE, and all stays: it
    // can't be done, there are none such."

    private static void fileHowMany() {
        C.part("9 how many CHANGES");
        Subject x = Subject.withAthletes(5);
        C.due("none, of one day", x.file(0, 5, 5, 10, 1), 0);
        C.due("one, of one day", x.file(0, 5, 5, 10, 2), 1);
        C.due("one, of sixty days", x.file(0, 5, 64, 11, 2), 1);
        C.due("all sixty", x.file(0, 5, 64, 11, 3), 60);
        C.due("none of sixty", x.file(0, 5, 64, 11, 3), 0);
        C.due("the first and the last were", x.file(0, 64, 123, 12, 1), 1);
        x.at(4, 23);
        C.due("late ones are changes, too", x.file(0, 5, 7, 12, 1), 3);
        C.due("one of them late", x.of(0, 4), 1);
    }

    private static void fileNone() {
        C.part("9 NONE, and all stays");
        String before = inTheMiddle().state(DAYS);
        // Now it is day 3, hour 12; athlete 0 has filed hour 12 for today, athlete 1 hour 20.
        int[][] wrong = {{2, 4, 5, 13, 1}, {-1, 4, 5, 13, 1}, {MOST, 4, 5, 13, 1},
            {LEAST, 4, 5, 13, 1}, {1, 2, 5, 13, 1}, {1, 0, 5, 13, 1}, {1, -1, 5, 13, 1},
            {1, 3, 5, 12, 1}, {1, 3, 5, 11, 1}, {0, 3, 5, 13, 1}, {0, 3, 3, 12, 1},
            {1, 5, 4, 13, 1}, {1, 4, 64, 13, 1}, {1, 1099, 1100, 13, 1}, {1, 1100, 1100, 13, 1},
            {1, 4, 5, 4, 1}, {1, 4, 5, 23, 1}, {1, 4, 5, 13, -1}, {1, 4, 5, 13, 10},
            {1, 4, MOST, 13, 1}, {1, LEAST, 4, 13, 1}, {1, 4, 5, MOST, LEAST}};
        for (int[] one : wrong) {
            Subject x = inTheMiddle();
            String call = one[0] + " " + one[1] + " " + one[2] + " " + one[3] + " " + one[4];
            C.due("file " + call, x.file(one[0], one[1], one[2], one[3], one[4]), NONE);
            C.due("all stays behind " + call, x.state(DAYS), before);
        }
        C.due("file 1 3 5 13 1", inTheMiddle().file(1, 3, 5, 13, 1), 1);
        C.due("file 1 4 63 13 1", inTheMiddle().file(1, 4, 63, 13, 1), 0);
        C.due("file 0 4 5 13 1", inTheMiddle().file(0, 4, 5, 13, 1), 2);
    }

    // ---- promise 10: "A TEST: 0 to 2 as told. NONE: there are none such."

    private static void test() {
        C.part("10 NONE: there are none such");
        Subject x = Subject.withAthletes(5, 6);
        x.file(1, 0, 0, 10, 9);
        x.at(0, 10);
        for (int athlete : new int[] {LEAST, -1, 2, 3, 6, MOST}) {
            C.due("athlete " + athlete, x.test(athlete, 1, true), NONE);
            C.due("athlete " + athlete + ", not found", x.test(athlete, 1, false), NONE);
        }
        for (int place : new int[] {LEAST, -1, 10, 11, MOST}) {
            C.due("place " + place, x.test(1, place, true), NONE);
            C.due("place " + place + ", not found", x.test(1, place, false), NONE);
        }
        C.due("no tests", x.of(0, 5) + x.of(1, 5), 0);
        C.due("no last one", x.of(1, 7), NONE);
        C.due("place 0", x.test(1, 0, false), 2);
        C.due("place 8", x.test(1, 8, false), 2);
        C.due("place 9", x.test(1, 9, false), 1);
        C.due("place 9, found", x.test(1, 9, true), 0);
        C.due("athlete 0", x.test(0, 9, false), 2);
        C.due("tests", x.of(0, 5) * 10 + x.of(1, 5), 14);
    }

    // ---- promise 11: "An APPEAL: true. false: it comes to nothing, there are none such."

    private static void appeal() {
        C.part("11 false: it comes to nothing, there are none such");
        Subject x = Subject.missedOn(3, 6, 9);
        x.athlete(5);
        for (int athlete : new int[] {LEAST, -1, 2, MOST}) {
            C.due("athlete " + athlete, x.appeal(athlete, 0), false);
        }
        for (int failure : new int[] {LEAST, -1, 3, 4, 59, 60, MOST}) {
            C.due("failure " + failure, x.appeal(0, failure), false);
        }
        C.due("one who has none", x.appeal(1, 0), false);
        C.due("none is struck", x.failure(0, 0, 2) + x.failure(0, 1, 2) + x.failure(0, 2, 2), 0);
        C.due("the last", x.appeal(0, 2), true);
        C.due("the first", x.appeal(0, 0), true);
        C.due("the first again", x.appeal(0, 0), false);
        x.at(20, 0);
        C.due("14 days", x.appeal(0, 1), true);
        Subject y = Subject.missedOn(3, 6, 9);
        y.at(21, 0);
        C.due("15 days", y.appeal(0, 1), false);
        C.due("12 days", y.appeal(0, 2), true);
        C.due("18 days", y.appeal(0, 0), false);
    }

    // ---- promise 12: "What 0: ATHLETES, 1: DAY, 2: HOUR, 3: bytes of the TAPE, 10 to 15: SETTINGS
    // 0 to 5. NONE for another what."

    private static void count() {
        C.part("12 NONE for another what");
        Subject x = Subject.withAthletes(5, 6);
        x.at(7, 4);
        x.feed("at 8 ");
        int[] settings = {101, 4, 6, 25, 7, 16};
        for (int i = 0; i < 6; i++) {
            x.set(i, settings[i]);
        }
        int[] due = {2, 7, 4, 5, NONE, NONE, NONE, NONE, NONE, NONE, 101, 4, 6, 25, 7, 16, NONE,
            NONE};
        for (int what = 0; what < due.length; what++) {
            C.due("what " + what, x.count(what), due[what]);
        }
        for (int what : new int[] {LEAST, LEAST + 9, LEAST + 10, LEAST + 15, -10, -2, -1, MOST}) {
            C.due("what " + what, x.count(what), NONE);
        }
    }

    // ---- promise 13: "Of an ATHLETE, what 0: RISK, 1: POINTS, 2: FAILURES, 3: VIOLATIONS, 4: LATE
    // CHANGES in this QUARTER, 5: TESTS, 6: of these MISSED, 7: DAY of the last one (NONE), 8:
    // WEIGHT, 9: DAY on which he came. NoSuchElementException: there is none such, another what."

    private static void ofAtFirst() {
        C.part("13 at first");
        Subject x = new Subject();
        x.at(29, 5);
        x.athlete(7);
        int[] due = {7, 0, 0, 0, 0, 0, 0, NONE, 7, 29};
        for (int what = 0; what < 10; what++) {
            C.due("what " + what, x.of(0, what), due[what]);
        }
        Subject y = Subject.withAthletes(1);
        C.due("came on day 0", y.of(0, 9), 0);
        y.test(0, 0, true);
        C.due("tested on day 0", y.of(0, 7), 0);
    }

    private static void ofEach() {
        C.part("13 each what");
        Subject x = Subject.filedThroughout();
        x.set(4, 9);
        x.missOn(1);
        x.missOn(4);
        x.missOn(7);
        x.missOn(10);
        x.test(0, 5, false);
        x.test(0, 1, true);
        x.file(0, 11, 11, 9, 1);
        x.file(0, 11, 11, 9, 2);
        x.file(0, 11, 11, 9, 3);
        x.missOn(13);
        x.test(0, 1, true);
        x.at(17, 3);
        int[] due = {5, 2, 5, 1, 3, 8, 5, 13, 5 * 5 * 3, 0};
        for (int what = 0; what < 10; what++) {
            C.due("what " + what, x.of(0, what), due[what]);
        }
    }

    private static void ofNone() {
        C.part("13 NoSuchElementException: there is none such, another what");
        Subject x = Subject.withAthletes(5, 6);
        for (int what : new int[] {LEAST, -2, -1, 10, 11, MOST}) {
            C.due("what " + what, x.of(0, what), THROWS);
            C.due("no athlete, what " + what, x.of(2, what), THROWS);
        }
        for (int athlete : new int[] {LEAST, -1, 2, 3, 5, 6, MOST}) {
            for (int what = 0; what < 10; what++) {
                C.due("athlete " + athlete + ", what " + what, x.of(athlete, what), THROWS);
            }
        }
        for (int what = 0; what < 10; what++) {
            C.holds("athlete 1, what " + what, x.of(1, what) >= NONE);
        }
    }

    // ---- promise 14: "Of what is FILED for a DAY, what 0: HOUR, 1: PLACE. NONE: nothing, there
    // are none such, another what."

    private static void filed() {
        C.part("14 NONE: nothing, there are none such, another what");
        Subject x = Subject.withAthletes(5, 6);
        x.file(1, 0, 2, 5, 0);
        x.file(1, 1098, 1099, 22, 9);
        int[][] due = {{0, 5, 0}, {2, 5, 0}, {3, NONE, NONE}, {1097, NONE, NONE},
            {1098, 22, 9}, {1099, 22, 9}, {1100, NONE, NONE}, {-1, NONE, NONE},
            {MOST, NONE, NONE}, {LEAST, NONE, NONE}};
        for (int[] one : due) {
            C.due("day " + one[0] + ", hour", x.filed(1, one[0], 0), one[1]);
            C.due("day " + one[0] + ", place", x.filed(1, one[0], 1), one[2]);
            C.due("day " + one[0] + ", what -1", x.filed(1, one[0], -1), NONE);
            C.due("day " + one[0] + ", what 2", x.filed(1, one[0], 2), NONE);
            C.due("day " + one[0] + ", athlete 0", x.filed(0, one[0], 0), NONE);
            C.due("day " + one[0] + ", athlete 2", x.filed(2, one[0], 0), NONE);
            C.due("day " + one[0] + ", athlete -1", x.filed(-1, one[0], 0), NONE);
        }
        C.due("what most", x.filed(1, 0, MOST), NONE);
        C.due("athlete most", x.filed(MOST, 0, 0), NONE);
        x.at(500, 0);
        C.due("of days that are past, too", x.filed(1, 0, 0), 5);
    }

    // ---- promise 15: "Of a FAILURE, what 0: DAY, 1: kind, 2: 1 it is STRUCK, 0 not, 3: 1 it
    // COUNTS, 0 not, 4: 1 it is OPEN now (whatever WINDOW), 0 not. NONE: there are none such,
    // another what."

    private static void failure() {
        C.part("15 NONE: there are none such, another what");
        Subject x = Subject.missedOn(3, 6, 7);
        x.appeal(0, 1);
        int[][] due = {{3, 2, 0, 1, 1}, {6, 2, 1, 0, 0}, {7, 2, 0, 1, 1}};
        for (int k = 0; k < 3; k++) {
            for (int what = 0; what < 5; what++) {
                C.due("failure " + k + ", what " + what, x.failure(0, k, what), due[k][what]);
            }
            for (int what : new int[] {LEAST, -1, 5, 6, MOST}) {
                C.due("failure " + k + ", what " + what, x.failure(0, k, what), NONE);
            }
        }
        x.athlete(5);
        for (int what = 0; what < 5; what++) {
            for (int k : new int[] {LEAST, -1, 3, 4, 59, 60, 61, MOST}) {
                C.due("failure " + k + ", what " + what, x.failure(0, k, what), NONE);
            }
            C.due("of one who has none", x.failure(1, 0, what), NONE);
            C.due("athlete 2", x.failure(2, 0, what), NONE);
            C.due("athlete -1", x.failure(-1, 0, what), NONE);
            C.due("athlete most", x.failure(MOST, 0, what), NONE);
        }
        C.due("out of WINDOW", x.at(500, 0), 16);
        C.due("is open still", x.failure(0, 0, 4), 1);
    }

    // ---- promise 16: "DAY of the k-th VIOLATION (from 0 on). NONE: there are none such."

    private static void violation() {
        C.part("16 the k-th VIOLATION (from 0 on). NONE: there are none such");
        Subject x = Subject.missedOn(0, 3);
        C.due("none yet", x.violation(0, 0), NONE);
        x.missOn(6);
        C.due("0", x.violation(0, 0), 6);
        C.due("1 of one", x.violation(0, 1), NONE);
        x.missOn(9);
        x.missOn(12);
        x.missOn(15);
        C.due("0", x.violation(0, 0), 6);
        C.due("1", x.violation(0, 1), 15);
        for (int k : new int[] {LEAST, -2, -1, 2, 3, 60, 61, MOST}) {
            C.due("" + k, x.violation(0, k), NONE);
        }
        x.athlete(5);
        C.due("of one who has none", x.violation(1, 0), NONE);
        for (int athlete : new int[] {LEAST, -1, 2, 6, MOST}) {
            C.due("athlete " + athlete, x.violation(athlete, 0), NONE);
        }
        C.due("on day 0", violationOnDay0(), 0);
    }

    private static int violationOnDay0() {
        Subject x = Subject.missedOn(0, 0, 0);
        x.set(2, 0);
        return x.violation(0, 0);
    }

    // ---- promise 17: "The first DAY of a QUARTER (0 to 35) for which an ATHLETE has not FILED.
    // NONE: he has for all, there are none such."

    private static void hole() {
        C.part("17 NONE: he has for all, there are none such");
        Subject x = Subject.withAthletes(5, 6);
        for (int quarter : new int[] {LEAST, -2, -1, 36, 37, MOST}) {
            C.due("quarter " + quarter, x.hole(0, quarter), NONE);
        }
        // 30 times each is 0, or a day that there is, if ints wrap.
        C.due("quarter that wraps", x.hole(0, 1 << 31), NONE);
        C.due("quarter that wraps", x.hole(0, 143165577), NONE);
        for (int athlete : new int[] {LEAST, -1, 2, 6, MOST}) {
            C.due("athlete " + athlete, x.hole(athlete, 0), NONE);
        }
        for (int quarter : new int[] {0, 1, 34, 35}) {
            int first = 30 * quarter;
            C.due("nothing yet", x.hole(0, quarter), first);
            x.file(0, first, first, 10, 1);
            C.due("the first day", x.hole(0, quarter), first + 1);
            x.file(0, first + 2, first + 28, 10, 1);
            C.due("all but two", x.hole(0, quarter), first + 1);
            x.file(0, first + 1, first + 1, 10, 1);
            C.due("all but the last", x.hole(0, quarter), first + 29);
            x.file(0, first + 29, first + 29, 10, 1);
            C.due("all", x.hole(0, quarter), NONE);
            C.due("the other athlete", x.hole(1, quarter), first);
        }
        x.file(1, 31, 59, 10, 1);
        x.file(1, 60, 60, 10, 1);
        C.due("all but the first", x.hole(1, 1), 30);
        C.due("the next one", x.hole(1, 2), 61);
    }

    // ---- promise 18: "A LOT of n by a seed (0 or more), as digits of a number, the first drawn
    // the highest. NONE: not so many ATHLETES, n below 1, the seed below 0."

    private static void lot() {
        C.part("18 NONE: not so many ATHLETES, n below 1, the seed below 0");
        Subject x = new Subject();
        for (int many = 0; many <= 6; many++) {
            C.due(many + " athletes, n -1", x.lot(0, -1), NONE);
            C.due(many + " athletes, n 0", x.lot(0, 0), NONE);
            C.holds(many + " athletes, n 1", x.lot(0, 1) >= 0 == many >= 1);
            C.holds(many + " athletes, as many", x.lot(0, many) >= 0 == many >= 1);
            C.due(many + " athletes, one more", x.lot(0, many + 1), NONE);
            C.due(many + " athletes, n most", x.lot(0, MOST), NONE);
            C.due(many + " athletes, n least", x.lot(0, LEAST), NONE);
            C.due(many + " athletes, seed -1", x.lot(-1, 1), NONE);
            C.due(many + " athletes, seed least", x.lot(LEAST, 1), NONE);
            C.holds(many + " athletes, seed most", x.lot(MOST, 1) >= 0 == many >= 1);
            x.athlete(1);
        }
        C.due("as digits, the first drawn the highest", x.lot(0, 6), 315240);
        C.due("of one digit", x.lot(0, 1), 3);
    }

    // ---- promise 19: "How likely a LOT's first one is that ATHLETE by WEIGHTS, a fraction in
    // least terms: upper, or (under) lower number. NONE: there is none such."

    private static void chances(String name, Subject x, int athlete, int upper, int lower) {
        C.due(name + ", upper", x.chance(athlete, false), upper);
        C.due(name + ", lower", x.chance(athlete, true), lower);
    }

    private static void chance() {
        C.part("19 a fraction in least terms; NONE: there is none such");
        chances("the only one", Subject.withAthletes(9), 0, 1, 1);
        chances("one of two alike", Subject.withAthletes(9, 9), 1, 1, 2);
        chances("3 of 7", Subject.withAthletes(3, 4), 0, 3, 7);
        chances("4 of 7", Subject.withAthletes(3, 4), 1, 4, 7);
        chances("6 of 9", Subject.withAthletes(6, 3), 0, 2, 3);
        chances("8 of 12", Subject.withAthletes(8, 4), 0, 2, 3);
        chances("6 of 10", Subject.withAthletes(6, 4), 0, 3, 5);
        chances("1 of 10", Subject.withAthletes(9, 1), 1, 1, 10);
        chances("9 of 10", Subject.withAthletes(9, 1), 0, 9, 10);
        chances("6 of 21", Subject.withAthletes(1, 2, 3, 4, 5, 6), 5, 2, 7);
        Subject x = Subject.withAthletes(2, 3);
        for (int athlete : new int[] {LEAST, -2, -1, 2, 3, 5, 6, MOST}) {
            chances("athlete " + athlete, x, athlete, NONE, NONE);
        }
        x.at(3, 0);
        x.test(1, 1, true);
        chances("8 of 11", x, 0, 8, 11);
        x.at(999, 23);
        // 2 times 1000 and 3 times 997, without points on 999: the last failures are on 930 and on.
        C.due("violations of 33 failures", x.of(0, 3), 11);
        chances("2000 of 4991", x, 0, 2000, 4991);
        chances("2991 of 4991", x, 1, 2991, 4991);
    }

    // ---- promise 20: "Of the ROUND of a DAY (0 to 1099) in an HOUR, what 0: PLACE, 1: ATHLETES
    // who have FILED so (bits); NONE: none, no such ones. Hour NONE, what 0: how many HOURS it has,
    // 1: how many ATHLETES it meets, all HOURS together."

    private static Subject withRound() {
        Subject x = Subject.withAthletes(1, 2, 3, 4, 5, 6);
        for (int day : new int[] {0, 1099}) {
            x.file(0, day, day, 5, 9);
            x.file(1, day, day, 22, 0);
            x.file(2, day, day, 22, 0);
            x.file(3, day, day, 22, 1);
            x.file(4, day, day, 13, 4);
            x.file(5, day, day, 13, 3);
        }
        return x;
    }

    private static void round() {
        C.part("20 NONE: none, no such ones");
        Subject x = withRound();
        for (int day : new int[] {0, 1099}) {
            int[][] due = {{4, NONE, NONE}, {5, 9, 1}, {6, NONE, NONE}, {12, NONE, NONE},
                {13, 3, 32}, {21, NONE, NONE}, {22, 0, 6}, {23, NONE, NONE}, {24, NONE, NONE},
                {0, NONE, NONE}, {-2, NONE, NONE}, {MOST, NONE, NONE}, {LEAST, NONE, NONE},
                {AS_FIVE, NONE, NONE}, {NEAR_FIVE, NONE, NONE}};
            for (int[] one : due) {
                C.due("hour " + one[0] + ", place", x.round(day, one[0], 0), one[1]);
                C.due("hour " + one[0] + ", bits", x.round(day, one[0], 1), one[2]);
                C.due("hour " + one[0] + ", what -1", x.round(day, one[0], -1), NONE);
                C.due("hour " + one[0] + ", what 2", x.round(day, one[0], 2), NONE);
            }
        }
        for (int day : new int[] {LEAST, -2, -1, 1, 1098, 1100, 1101, MOST}) {
            C.due("day " + day + ", place", x.round(day, 5, 0), NONE);
            C.due("day " + day + ", bits", x.round(day, 5, 1), NONE);
        }
    }

    private static void roundOfAllHours() {
        C.part("20 Hour NONE");
        Subject x = withRound();
        for (int day : new int[] {0, 1099}) {
            C.due("hours", x.round(day, NONE, 0), 3);
            C.due("athletes whom it meets", x.round(day, NONE, 1), 4);
            C.due("what -1", x.round(day, NONE, -1), NONE);
            C.due("what 2", x.round(day, NONE, 2), NONE);
        }
        for (int day : new int[] {1, 1098}) {
            C.due("no hours", x.round(day, NONE, 0), 0);
            C.due("no athletes", x.round(day, NONE, 1), 0);
        }
        for (int day : new int[] {LEAST, -1, 1100, MOST}) {
            C.due("day " + day, x.round(day, NONE, 0), NONE);
            C.due("day " + day, x.round(day, NONE, 1), NONE);
        }
        for (int i = 0; i < 6; i++) {
            x.file(i, 7, 7, 10 + i, 5);
            x.file(i, 8, 8, 10, 5);
            x.file(i, 9, 9, 10, i);
        }
        C.due("six hours", x.round(7, NONE, 0) * 10 + x.round(7, NONE, 1), 66);
        C.due("one hour, all", x.round(8, NONE, 0) * 10 + x.round(8, NONE, 1), 16);
        C.due("one hour, one of six", x.round(9, NONE, 0) * 10 + x.round(9, NONE, 1), 11);
        C.due("all six bits", x.round(8, 10, 1), 63);
    }

    // ---- promise 21: "ATHLETES (bits) who have FILED that HOUR and PLACE for a DAY. NONE: there
    // are none such."

    private static void there() {
        C.part("21 NONE: there are none such");
        Subject x = withRound();
        for (int day : new int[] {0, 1099}) {
            C.due("hour 5, place 9", x.there(day, 5, 9), 1);
            C.due("hour 5, place 8", x.there(day, 5, 8), 0);
            C.due("hour 6, place 9", x.there(day, 6, 9), 0);
            C.due("hour 22, place 0", x.there(day, 22, 0), 6);
            C.due("hour 22, place 1", x.there(day, 22, 1), 8);
            C.due("hour 21, place 0", x.there(day, 21, 0), 0);
            for (int hour : new int[] {LEAST, -1, 0, 4, 23, 24, MOST, AS_FIVE, NEAR_FIVE}) {
                C.due("hour " + hour, x.there(day, hour, 0), NONE);
                C.due("hour " + hour, x.there(day, hour, 5), NONE);
                C.due("hour " + hour, x.there(day, hour, 9), NONE);
            }
            for (int place : new int[] {LEAST, -1, 10, 11, MOST}) {
                C.due("place " + place, x.there(day, 22, place), NONE);
                C.due("place " + place, x.there(day, 5, place), NONE);
            }
        }
        for (int day : new int[] {LEAST, -1, 1100, 1101, MOST}) {
            C.due("day " + day, x.there(day, 22, 0), NONE);
        }
        C.due("day 1", x.there(1, 22, 0), 0);
        C.due("day 1098", x.there(1098, 22, 0), 0);
        Subject y = new Subject();
        C.due("no athletes, hour 5", y.there(0, 5, 0), 0);
        C.due("no athletes, hour 4", y.there(0, 4, 0), NONE);
        C.due("no athletes, hour 22", y.there(1099, 22, 9), 0);
        C.due("no athletes, hour 23", y.there(1099, 23, 9), NONE);
    }

    // ---- promise 22: "1: one more FAILURE today (noted, however many there are) would bring an
    // ATHLETE a VIOLATION today; 0: not. NONE: there is none such."

    private static void dangerByLimit() {
        C.part("22 would bring a VIOLATION today, by LIMIT");
        for (int limit = 2; limit <= 5; limit++) {
            Subject x = Subject.filedThroughout();
            x.set(1, limit);
            x.set(2, 0);
            for (int many = 0; many <= 2 * limit; many++) {
                C.due("LIMIT " + limit + ", failures " + many, x.danger(0),
                    many % limit == limit - 1 ? 1 : 0);
                x.missOn(3 + many);
            }
        }
        Subject x = Subject.withAthletes(5, 6);
        for (int athlete : new int[] {LEAST, -1, 2, 6, MOST}) {
            C.due("athlete " + athlete, x.danger(athlete), NONE);
        }
        C.due("athlete 0", x.danger(0), 0);
        C.due("athlete 1", x.danger(1), 0);
    }

    private static void dangerByNotice() {
        C.part("22 would bring a VIOLATION today, by NOTICE");
        Subject x = Subject.missedOn(0, 3);
        C.due("the same day", x.danger(0), 0);
        x.at(5, 23);
        C.due("2 days", x.danger(0), 0);
        x.at(6, 0);
        C.due("3 days", x.danger(0), 1);
        x.set(2, 4);
        C.due("NOTICE 4: 3 does not count", x.danger(0), 0);
        x.set(2, 3);
        x.test(0, 1, false);
        C.due("a void test is none", x.danger(0), 1);
        x.missOn(6);
        C.due("one came today", x.of(0, 3), 1);
        C.due("another today", x.danger(0), 0);
        x.set(2, 0);
        C.due("another today, NOTICE 0", x.danger(0), 0);
        x.set(1, 4);
        C.due("another today, LIMIT 4", x.danger(0), 1);
        C.due("it is only asked", x.of(0, 2), 3);
    }

    private static void dangerByWindow() {
        C.part("22 would bring a VIOLATION today, by WINDOW");
        Subject x = Subject.missedOn(7, 10);
        x.at(126, 23);
        C.due("119 days", x.danger(0), 1);
        x.at(127, 0);
        C.due("120 days", x.danger(0), 0);
        x.set(0, 121);
        C.due("WINDOW 121", x.danger(0), 1);
        x.set(1, 2);
        C.due("LIMIT 2: both are closed", x.danger(0), 0);
        x.set(1, 3);
        C.due("struck too late", x.appeal(0, 0), false);
        Subject y = Subject.missedOn(7, 10);
        y.at(13, 0);
        C.due("two points", y.danger(0), 1);
        y.appeal(0, 1);
        C.due("one is struck", y.danger(0), 0);
        Subject z = Subject.missedOn(7);
        z.set(0, 1);
        z.set(1, 2);
        z.set(2, 0);
        C.due("WINDOW 1, today", z.danger(0), 1);
        z.at(8, 0);
        C.due("WINDOW 1, tomorrow", z.danger(0), 0);
    }

    private static void dangerOfSixty() {
        C.part("22 (noted, however many there are)");
        Subject x = Subject.filedThroughout();
        x.set(1, 2);
        x.set(2, 0);
        x.at(5, 10);
        x.miss(0, 59);
        C.due("59 failures", x.danger(0), 1);
        x.miss(0, 1);
        C.due("60 failures, closed", x.danger(0), 0);
        x.appeal(0, 0);
        C.due("60 failures, one open", x.danger(0), 1);
        C.due("60 failures it stays", x.of(0, 2), 60);
        C.due("missed", x.test(0, 1, false), 1);
        C.due("is not noted", x.of(0, 3), 29);
        C.due("60 failures, one open", x.danger(0), 1);
    }

    // ---- promise 23: "The first DAY behind DAY on which POINTS would be fewer, if nothing else
    // came. NONE: they are 0, there is none such."

    private static void easier() {
        C.part("23 The first DAY behind DAY on which POINTS would be fewer");
        for (int window : new int[] {1, 2, 3, 120, 400}) {
            Subject x = Subject.missedOn(7);
            x.set(0, window == 120 ? 121 : 120);
            x.set(0, window);
            C.due("WINDOW " + window, x.easier(0), 7 + window);
            if (window > 1) {
                x.at(7 + window - 1, 23);
                C.due("WINDOW " + window + ", its last day", x.easier(0), 7 + window);
            }
            x.at(7 + window, 0);
            C.due("WINDOW " + window + ", that day", x.easier(0), NONE);
            C.due("WINDOW " + window + ", points then", x.of(0, 1), 0);
        }
        Subject x = Subject.missedOn(7, 10);
        C.due("the first of two", x.easier(0), 127);
        x.at(127, 0);
        C.due("the second of two", x.easier(0), 130);
        x.at(130, 0);
        C.due("none", x.easier(0), NONE);
        Subject y = Subject.missedOn(7, 7);
        y.set(2, 0);
        C.due("two of one day", y.easier(0), 127);
        y.appeal(0, 0);
        C.due("one of them struck", y.easier(0), 127);
        Subject z = Subject.missedOn(7, 8, 10, 13, 16, 18);
        C.due("one that counts behind a violation", z.easier(0), 136);
        Subject w = Subject.missedOn(7, 10);
        w.appeal(0, 0);
        C.due("the first is struck", w.easier(0), 130);
        Subject late = Subject.missedOn(999);
        C.due("behind the last day", late.easier(0), 1119);
    }

    private static void easierNone() {
        C.part("23 NONE: they are 0, there is none such");
        Subject x = Subject.withAthletes(5, 6);
        for (int athlete : new int[] {LEAST, -1, 0, 1, 2, 6, MOST}) {
            C.due("athlete " + athlete, x.easier(athlete), NONE);
        }
        C.due("closed", Subject.missedOn(7, 10, 13).easier(0), NONE);
        Subject y = Subject.missedOn(7);
        C.due("one point", y.easier(0), 127);
        y.appeal(0, 0);
        C.due("struck", y.easier(0), NONE);
    }

    // ---- promise 24: "How many VIOLATIONS there would be, were a FAILURE STRUCK. NONE: there are
    // none such."

    private static void without() {
        C.part("24 were a FAILURE STRUCK. NONE: there are none such");
        Subject x = Subject.missedOn(0, 3, 5, 6, 9);
        x.athlete(5);
        int[] due = {1, 1, 1, 1, 1};
        for (int k = 0; k < due.length; k++) {
            C.due("failure " + k + " of 0, 3, 6, 9", x.without(0, k), due[k]);
        }
        for (int k : new int[] {LEAST, -1, 5, 6, 59, 60, MOST}) {
            C.due("failure " + k, x.without(0, k), NONE);
        }
        C.due("one who has none", x.without(1, 0), NONE);
        for (int athlete : new int[] {LEAST, -1, 2, 6, MOST}) {
            C.due("athlete " + athlete, x.without(athlete, 0), NONE);
        }
        Subject y = Subject.missedOn(0, 3, 6);
        C.due("the first of three", y.without(0, 0), 0);
        C.due("the second of three", y.without(0, 1), 0);
        C.due("the last of three", y.without(0, 2), 0);
        C.due("it is only asked", y.of(0, 3), 1);
        C.due("it is only asked", y.failure(0, 0, 2), 0);
        y.at(300, 0);
        C.due("too late for an appeal is no matter", y.without(0, 0), 0);
        Subject z = Subject.missedOn(0, 2, 5, 6);
        z.set(0, 5);
        z.set(1, 2);
        z.set(2, 4);
        C.due("0 and 5 count and are 5 days apart", z.of(0, 3), 0);
        C.due("without 0: 2 and 6, 4 days apart", z.without(0, 0), 1);
        C.due("without 2, which does not count", z.without(0, 1), 0);
        C.due("without 5: 0 and 6", z.without(0, 2), 0);
        z.appeal(0, 0);
        C.due("0 is struck", z.of(0, 3), 1);
        C.due("without 0, which is struck", z.without(0, 0), 1);
        C.due("without 6", z.without(0, 3), 0);
        Subject sixty = Subject.filedThroughout();
        sixty.set(2, 0);
        sixty.at(0, 10);
        sixty.miss(0, 60);
        C.due("20 violations", sixty.of(0, 3), 20);
        C.due("without the 60th", sixty.without(0, 59), 19);
        C.due("without a 61st", sixty.without(0, 60), NONE);
    }

    // ---- promise 25: "The ATHLETE of most VIOLATIONS, of several of most POINTS, then of most
    // FAILURES, then the least. NONE: there are none."

    /** So many failures of each athlete today, of which those of the second row are struck. */
    private static int worstOf(int[] failures, int[] struck) {
        Subject x = new Subject();
        for (int i = 0; i < failures.length; i++) {
            x.athlete(1 + i);
            x.file(i, 0, 0, 10, 1);
        }
        x.set(2, 0);
        x.at(0, 10);
        for (int i = 0; i < failures.length; i++) {
            x.miss(i, failures[i]);
            for (int k = 0; k < struck[i]; k++) {
                x.appeal(i, k);
            }
        }
        return x.worst();
    }

    private static void worst() {
        C.part("25 of most VIOLATIONS, of most POINTS, of most FAILURES, the least");
        C.due("none", new Subject().worst(), NONE);
        C.due("one", Subject.withAthletes(5).worst(), 0);
        C.due("six alike", Subject.withAthletes(1, 2, 3, 4, 5, 6).worst(), 0);
        C.due("one violation before two points", worstOf(new int[] {2, 3}, new int[] {0, 0}), 1);
        C.due("the same, turned", worstOf(new int[] {3, 2}, new int[] {0, 0}), 0);
        C.due("two violations before one and two points",
            worstOf(new int[] {5, 6}, new int[] {0, 0}), 1);
        C.due("the same, turned", worstOf(new int[] {6, 5}, new int[] {0, 0}), 0);
        C.due("two points before one", worstOf(new int[] {1, 2}, new int[] {0, 0}), 1);
        C.due("a violation each, then points", worstOf(new int[] {3, 4}, new int[] {0, 0}), 1);
        C.due("points before failures", worstOf(new int[] {9, 1}, new int[] {9, 0}), 1);
        C.due("violations before failures", worstOf(new int[] {9, 3}, new int[] {9, 0}), 1);
        C.due("failures, of the same points", worstOf(new int[] {1, 2}, new int[] {0, 1}), 1);
        C.due("the same, turned", worstOf(new int[] {2, 1}, new int[] {1, 0}), 0);
        C.due("failures, without points", worstOf(new int[] {0, 1}, new int[] {0, 1}), 1);
        C.due("of two alike the least", worstOf(new int[] {0, 4, 4}, new int[] {0, 0, 0}), 1);
        C.due("the last of six", worstOf(new int[] {1, 1, 1, 1, 1, 2}, new int[6]), 5);
        C.due("the one in the midst", worstOf(new int[] {1, 1, 2, 1, 1, 1}, new int[6]), 2);
    }

    // ---- what is asked of one athlete, right behind what was asked of another

    private static void athletesApart() {
        C.part("each ATHLETE has his own FAILURES");
        Subject x = Subject.withAthletes(1, 1, 1);
        for (int i = 0; i < 3; i++) {
            x.file(i, 0, 59, 10, 1);
        }
        x.set(2, 0);
        x.at(5, 10);
        x.miss(0, 60);
        x.appeal(0, 59);
        x.miss(2, 1);
        // Behind the first one, who has the most, each of the others has as few as he has.
        int[][] due = {{2, 20 - 1, 1, 125, 60}, {0, 0, 0, NONE, 0}, {1, 0, 0, 125, 1}};
        for (int who : new int[] {0, 1, 0, 2, 1, 2, 0}) {
            C.due("points of " + who, x.of(who, 1), due[who][0]);
            C.due("first again", x.of(0, 1), due[0][0]);
            C.due("violations of " + who, x.of(who, 3), due[who][1]);
            C.due("first again", x.of(0, 3), due[0][1]);
            C.due("danger of " + who, x.danger(who), due[who][2]);
            C.due("first again", x.danger(0), due[0][2]);
            C.due("easier of " + who, x.easier(who), due[who][3]);
            C.due("first again", x.easier(0), due[0][3]);
            C.due("no violation behind those of " + who, x.violation(who, due[who][1]), NONE);
            C.due("failures of " + who, x.of(who, 2), due[who][4]);
            C.due("no failure behind those of " + who, x.failure(who, due[who][4], 4), NONE);
        }
        C.due("the last is open", x.failure(2, 0, 4), 1);
        C.due("weights", x.of(0, 8) * 100 + x.of(1, 8) * 10 + x.of(2, 8), 362);
    }

    // ---- calls that are refused, and questions

    private static void refusedCallsChangeNothing() {
        C.part("a call that is refused changes nothing");
        Subject x = inTheMiddle();
        x.feed("at 0 0;");
        x.athlete(0);
        x.athlete(10);
        x.set(0, 100);
        x.set(0, 401);
        x.set(6, 1);
        x.at(3, 12);
        x.at(3, 11);
        x.at(1000, 0);
        x.at(4, 24);
        x.file(2, 4, 5, 13, 1);
        x.file(0, 3, 5, 13, 1);
        x.file(0, 4, 64, 13, 1);
        x.test(2, 1, false);
        x.test(0, 10, false);
        x.appeal(0, 0);
        x.appeal(0, 2);
        x.appeal(2, 0);
        x.end(8);
        x.end(-1);
        C.due("the tape stays", x.count(3), 7);
        C.due("the rest stays", x.state(DAYS), inTheMiddle().state(DAYS));
        Subject full = Subject.withAthletes(1, 2, 3, 4, 5, 6);
        full.athlete(7);
        C.due("a 7th", full.state(), Subject.withAthletes(1, 2, 3, 4, 5, 6).state());
    }

    private static void questionsChangeNothing() {
        C.part("a question changes nothing");
        Subject x = inTheMiddle();
        x.feed("at 9");
        for (int i = -1; i <= 2; i++) {
            for (int k = -1; k <= 2; k++) {
                x.failure(i, k, 3);
                x.violation(i, k);
                x.without(i, k);
                x.filed(i, k, 0);
                x.hole(i, k);
                x.lot(k, i);
            }
            x.of(i, 8);
            x.chance(i, true);
            x.danger(i);
            x.easier(i);
            x.round(3, i, 1);
            x.there(3, 12, i);
            x.count(i);
        }
        x.worst();
        x.fault();
        C.due("the tape stays", x.count(3), 4);
        C.due("the rest stays", x.state(DAYS), inTheMiddle().state(DAYS));
    }
}
