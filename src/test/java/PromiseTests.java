/** Each promise of the document by hand: ordinary inputs, the edges it names, wrong inputs. */
public final class PromiseTests {
    private static final int THROWS = Subject.THROWS;
    private static final int MOST = Subject.MOST;
    /** Those for which the tests of texts file anything, and some beside them. */
    private static final int[] DAYS = {0, 1, 2, 3, 4, 9, 10, 33, 34, 35, 50, 51, 99};

    private static final Check C = new Check();

    public static void main(String[] args) {
        newObject();
        feed();
        end();
        tell();
        faultsOfSigns();
        faultsOfNumbers();
        faultsOfDoing();
        athlete();
        set();
        at();
        atNotesAtMostSixty();
        file();
        fileToday();
        lateChanges();
        test();
        appeal();
        count();
        of();
        filed();
        failuresThatCount();
        failuresThatAreOpen();
        violation();
        settingsTellAnew();
        hole();
        lot();
        chance();
        round();
        there();
        danger();
        easier();
        without();
        worst();
        C.finish();
    }

    // ---- promise 1

    private static void newObject() {
        C.part("1 new object");
        Subject x = new Subject();
        C.due("count(0)", x.count(0), 0);
        C.due("count(1)", x.count(1), 0);
        C.due("count(2)", x.count(2), 0);
        C.due("count(3)", x.count(3), 0);
        int[] settings = {120, 3, 3, 24, 2, 14};
        for (int i = 0; i < 6; i++) {
            C.due("setting " + i, x.count(10 + i), settings[i]);
        }
        C.due("NONE", WhereFound.NONE, -1);
        C.due("fault()", x.fault(), 0);
        C.due("worst()", x.worst(), -1);
        C.due("lot(0, 1)", x.lot(0, 1), -1);
        C.due("danger(0)", x.danger(0), -1);
        C.due("easier(0)", x.easier(0), -1);
        C.due("without(0, 0)", x.without(0, 0), -1);
        C.due("chance(0)", x.chance(0, true), -1);
        C.due("of(0, 0)", x.of(0, 0), THROWS);
        x.athlete(3);
        x.at(5, 5);
        C.due("another object", new Subject().count(0) + new Subject().count(1), 0);
    }

    // ---- promises 2 to 5

    private static void feed() {
        C.part("2 feed");
        Subject x = new Subject();
        int athl = 'a' << 24 | 't' << 16 | 'h' << 8 | 'l';
        int ete = 'e' << 24 | 't' << 16 | 'e' << 8 | '7';
        int tail = ';' << 24 | 32 << 16 | 10 << 8 | 32;
        int blanks = 0x20202020;
        C.due("feed", x.feed(athl, ete, tail, blanks, blanks), 20);
        C.due("count(3)", x.count(3), 20);
        C.due("tell()", x.tell(), 1);
        C.due("of(0, 0)", x.of(0, 0), 7);
        for (int i = 1; i <= 20; i++) {
            C.due("feed " + i, x.feed(blanks, blanks, blanks, blanks, blanks), 20 * i);
        }
        C.due("feed 21", x.feed(athl, ete, tail, blanks, blanks), -1);
        C.due("none came", x.count(3), 400);
        C.due("end(381)", x.end(381), true);
        C.due("19 bytes of room", x.feed(blanks, blanks, blanks, blanks, blanks), -1);
        C.due("none came", x.count(3), 381);
        C.due("end(380)", x.end(380), true);
        C.due("just room", x.feed(athl, ete, tail, blanks, blanks), 400);
        C.due("tell()", x.tell(), 1);
        C.due("count(0)", x.count(0), 2);
        x.feed(-1, 0, MOST, THROWS, 0x80ff00aa);
        C.due("signs above 127", x.tell(), -1);
        C.due("fault", x.fault(), 1);
    }

    private static void end() {
        C.part("3 end");
        Subject x = new Subject();
        C.due("end(0)", x.end(0), true);
        C.due("end(1)", x.end(1), false);
        C.due("end(-1)", x.end(-1), false);
        x.feed("athlete 4;athlete 5;");
        C.due("end(21)", x.end(21), false);
        C.due("end(MOST)", x.end(MOST), false);
        C.due("end(THROWS)", x.end(THROWS), false);
        C.due("stays", x.count(3), 20);
        C.due("end(20)", x.end(20), true);
        C.due("end(10)", x.end(10), true);
        C.due("count(3)", x.count(3), 10);
        C.due("never longer again", x.end(11), false);
        x.feed("at 0 9;");
        C.due("behind what is left", x.count(3), 17);
        C.due("tell()", x.tell(), 2);
        C.due("one athlete", x.count(0), 1);
        C.due("hour", x.count(2), 9);
    }

    private static void tell() {
        C.part("4 tell");
        Subject x = new Subject();
        C.due("empty", x.tell(), 0);
        C.due("blanks", x.tell("  \n\n "), 0);
        C.due("all kinds", x.tell("athlete 5;set 2 0;file 0 1 3 10 2;file 0 2 2 11 2;"
            + "at 1 10;test 0 2 missed;test 0 2 found;test 0 1 missed;appeal 0 0;"), 9);
        C.due("tape", x.count(3), 0);
        C.due("fault()", x.fault(), 0);
        C.due("notice", x.count(12), 0);
        C.due("day", x.count(1), 1);
        C.due("hour", x.count(2), 10);
        C.due("filed", x.filed(0, 2, 0) * 10 + x.filed(0, 2, 1), 112);
        C.due("tests", x.of(0, 5), 3);
        C.due("missed", x.of(0, 6), 1);
        C.due("struck", x.failure(0, 0, 2), 1);
        C.due("without blanks", x.tell("at1 11;athlete3;test1 4found;"), 3);
        C.due("risk", x.of(1, 0), 3);
        C.due("last test", x.of(1, 7), 1);
        C.due("blanks everywhere", x.tell(" \n at\n1   12 ;\n"), 1);
        C.due("zeros ahead", x.tell("at 0001 0013;"), 1);
        C.due("hour", x.count(2), 13);
        C.due("a setting that is so", x.tell("set 0 120;set 0 120;"), 2);
        stateStaysByFault();
        rowsBeginAnewAfterFault();
        allStaysByFault();
        Subject y = new Subject();
        StringBuilder all = new StringBuilder();
        for (int i = 0; i < 50; i++) {
            all.append("set 0 ").append(i % 2 + 1).append(";");
        }
        C.due("400 bytes", all.length(), 400);
        C.due("50 statements", y.tell(all.toString()), 50);
        C.due("window", y.count(10), 2);
    }

    private static void stateStaysByFault() {
        Subject x = Subject.withAthletes(2);
        x.file(0, 0, 40, 10, 1);
        x.at(0, 10);
        C.due("missed", x.test(0, 1, false), 1);
        C.due("fault", x.tell("athlete 5;set 0 7;appeal 0 0;test 0 1 missed;"
            + "file 0 1 30 11 1;at 60 3;x"), -1);
        C.due("its place", x.fault(), 1 + 8 * 70);
        C.due("tape", x.count(3), 0);
        C.due("athletes", x.count(0), 1);
        C.due("day", x.count(1), 0);
        C.due("hour", x.count(2), 10);
        C.due("window", x.count(10), 120);
        C.due("struck", x.failure(0, 0, 2), 0);
        C.due("failures", x.of(0, 2), 1);
        C.due("late", x.of(0, 4), 0);
        C.due("tests", x.of(0, 5), 1);
        C.due("missed", x.of(0, 6), 1);
        C.due("filed", x.filed(0, 5, 0), 10);
        C.due("hole", x.hole(0, 1), 41);
        C.due("goes on", x.tell("at 0 11;"), 1);
        C.due("no fault now", x.fault(), 0);
    }

    private static void rowsBeginAnewAfterFault() {
        String spoil = "file 0 0 9 10 1;file 0 0 9 11 1;file 0 0 9 10 1;at 0 10;"
            + "test 0 1 missed;file 0 1 1 12 1;appeal 0 0;";
        Subject x = new Subject();
        // Twice, since two rows take turns.
        C.due("fault", x.tell("athlete 9;" + spoil + "y;"), -1);
        C.due("fault", x.tell("athlete 8;" + spoil + "y;"), -1);
        C.due("told well", x.tell("athlete 1;"), 1);
        Subject fresh = Subject.withAthletes(1);
        C.due("as new", x.state(DAYS), fresh.state(DAYS));
        x.file(0, 0, 3, 10, 1);
        x.at(0, 10);
        x.test(0, 1, false);
        C.due("a failure is not struck at first", x.failure(0, 0, 2), 0);
        String before = x.state(DAYS);
        C.due("fault", x.tell("athlete 4;file 1 0 9 12 3;at 0 12;test 1 3 missed;z"), -1);
        C.due("as before", x.state(DAYS), before);
        C.due("none such any more", x.of(1, 0), THROWS);
        C.due("none such any more", x.filed(1, 0, 0), -1);
        C.due("none such any more", x.chance(1, true), -1);
        C.due("nobody there", x.there(0, 12, 3), 0);
        C.due("athlete", x.athlete(4), 1);
        C.due("filed", x.filed(1, 0, 0), -1);
        C.due("tests", x.of(1, 5) + x.of(1, 6) + x.of(1, 2), 0);
    }

    private static Subject inTheMiddle() {
        Subject x = Subject.withAthletes(2, 9);
        x.file(0, 0, 59, 12, 1);
        x.at(3, 12);
        x.athlete(7);
        x.test(0, 1, false);
        x.file(0, 4, 4, 11, 1);
        x.file(0, 4, 4, 10, 1);
        x.file(0, 4, 4, 9, 3);
        x.at(33, 12);
        x.test(0, 1, false);
        x.file(0, 34, 34, 11, 1);
        x.appeal(0, 2);
        int[] settings = {50, 2, 4, 20, 1, 9};
        for (int i = 0; i < 6; i++) {
            x.set(i, settings[i]);
        }
        return x;
    }

    private static void allStaysByFault() {
        String before = inTheMiddle().state(DAYS);
        for (int times = 1; times <= 3; times++) {
            Subject x = inTheMiddle();
            for (int i = 0; i < times; i++) {
                C.due("fault", x.tell("set 0 7;set 1 3;set 2 0;set 3 48;set 4 0;set 5 60;"
                    + "appeal 0 1;file 0 34 50 13 3;test 0 1 missed;test 2 0 found;athlete 1;"
                    + "at 34 13;test 0 3 missed;at 95 1;file 3 99 99 9 9;at 95 0;"), -1);
                C.due("fault()", x.fault() % 8, 3);
            }
            C.due("all stays", x.state(DAYS), before);
        }
        Subject x = inTheMiddle();
        C.due("the same without the fault", x.tell("set 0 7;set 5 60;appeal 0 1;"
            + "file 0 34 50 13 3;test 0 1 missed;athlete 1;at 95 1;file 3 99 99 9 9;"), 8);
        C.holds("is another", !x.state(DAYS).equals(before));
    }

    /** A text on an object with one athlete (risk 5), who has one failure, at day 0, hour 10. */
    private static void fault(String text, int kind, int place) {
        Subject x = Subject.withAthletes(5);
        x.file(0, 0, 29, 10, 1);
        x.at(0, 10);
        x.test(0, 1, false);
        C.due("tell '" + text + "'", x.tell(text), kind == 0 ? 1 : -1);
        C.due("fault of '" + text + "'", x.fault(), kind + 8 * place);
    }

    private static void faultsOfSigns() {
        C.part("5 fault, kind 1");
        fault("athlete 4;", 0, 0);
        fault(";", 1, 0);
        fault("  ;", 1, 2);
        fault("5", 1, 0);
        fault("foo 1;", 1, 0);
        fault("athletes 1;", 1, 0);
        fault("athlet 1;", 1, 0);
        fault("Athlete 1;", 1, 0);
        fault("found;", 1, 0);
        fault("bt 1 1;", 1, 0);
        fault("atz 1 1;", 1, 0);
        fault("at{ 1 1;", 1, 2);
        fault("at` 1 1;", 1, 2);
        fault("at 1/1;", 1, 4);
        fault("at 1:1;", 1, 4);
        fault("at 9 0;", 0, 0);
        fault("\tathlete 1;", 1, 0);
        fault("\rathlete 1;", 1, 0);
        fault("\0", 1, 0);
        fault("athlete", 1, 7);
        fault("athlete  ", 1, 9);
        fault("athlete 4", 1, 9);
        fault("athlete 4 ", 1, 10);
        fault("athlete ;", 1, 8);
        fault("athlete 4 4;", 1, 10);
        fault("athlete 4;;", 1, 10);
        fault("athlete 4;a", 1, 10);
        fault("athlete4x;", 1, 8);
        fault("athlete -4;", 1, 8);
        fault("athlete 00004;", 1, 8);
        fault("athlete 12345;", 1, 8);
        fault("athlete 99999999999999999999;", 1, 8);
        fault("set x 4;", 1, 4);
        fault("set 0;", 1, 5);
        fault("at 5;", 1, 4);
        fault("at 5 6 7;", 1, 7);
        fault("file 0 1 2 10;", 1, 13);
        fault("file 0 1 2 10 1 1;", 1, 16);
        fault("test 0 1;", 1, 8);
        fault("test 0 1 foun;", 1, 9);
        fault("test 0 1 founds;", 1, 9);
        fault("test 0 1 at;", 1, 9);
        fault("test 0 found;", 1, 7);
        fault("test 0 1 1;", 1, 9);
        fault("test 0 1 missed", 1, 15);
        fault("test 0 1 missed found;", 1, 16);
        fault("appeal 0;", 1, 8);
        fault("set 0 7;athlete 4;at 1 1;*", 1, 25);
    }

    private static void faultsOfNumbers() {
        C.part("5 fault, kind 2");
        fault("athlete 0;", 2, 8);
        fault("athlete 10;", 2, 8);
        fault("athlete 9999 !", 2, 8);
        fault("set 6 4;", 2, 4);
        fault("set 0 0;", 2, 6);
        fault("set 0 401;", 2, 6);
        fault("set 1 1;", 2, 6);
        fault("set 1 6;", 2, 6);
        fault("set 2 31;", 2, 6);
        fault("set 3 49;", 2, 6);
        fault("set 4 10;", 2, 6);
        fault("set 5 0;", 2, 6);
        fault("set 5 61;", 2, 6);
        fault("set 5 60;", 0, 0);
        fault("at 1000 0;", 2, 3);
        fault("at 999 24;", 2, 7);
        fault("at 999 23;", 0, 0);
        fault("file 1 1 2 10 1;", 2, 5);
        fault("file 0 1100 1100 10 1;", 2, 7);
        fault("file 0 1090 1100 10 1;", 2, 12);
        fault("file 0 1090 1099 10 1;", 0, 0);
        fault("file 0 5 4 10 1;", 2, 9);
        fault("file 0 5 65 10 1;", 2, 9);
        fault("file 0 5 64 10 1;", 0, 0);
        fault("file 0 5 5 10 1;", 0, 0);
        fault("file 0 5 5 4 1;", 2, 11);
        fault("file 0 5 5 5 1;", 0, 0);
        fault("file 0 5 5 22 1;", 0, 0);
        fault("file 0 5 5 23 1;", 2, 11);
        fault("file 0 5 5 22 10;", 2, 14);
        fault("file 0 5 5 22 9;", 0, 0);
        fault("test 1 1 found;", 2, 5);
        fault("test 0 10 found;", 2, 7);
        fault("test 0 9 found;", 0, 0);
        fault("appeal 1 0;", 2, 7);
        fault("appeal 0 1;", 2, 9);
        fault("appeal 0 0;", 0, 0);
        fault("athlete 3;test 2 1 found;", 2, 15);
        fault("test 0 1 missed;appeal 0 2;", 2, 25);
        fault("at 999 24 24 24", 2, 7);
        fault("set 9 12345;", 2, 4);
        fault("file 9 x;", 2, 5);
        Subject x = Subject.withAthletes(5);
        C.due("those of statements ahead", x.tell("athlete 3;file 0 0 29 10 1;at 0 10;"
            + "test 1 1 found;test 0 1 missed;appeal 0 0;"), 6);
    }

    private static void faultsOfDoing() {
        C.part("5 fault, kind 3");
        fault("at 0 10;", 3, 0);
        fault("at 0 9;", 3, 0);
        fault("at 0 11;", 0, 0);
        fault("  at 0 9 ;", 3, 2);
        fault("at 0 9", 1, 6);
        fault("at 0 9 x", 1, 7);
        fault("file 0 0 0 11 1;", 3, 0);
        fault("set 0 5; at 5 0;file 0 4 9 11 1;", 3, 16);
        fault("set 0 5;at 15 0;appeal 0 0;", 3, 16);
        fault("appeal 0 0;appeal 0 0;", 3, 11);
        fault("appeal 0 0;appeal 0 0;x", 3, 11);
        Subject x = Subject.withAthletes(1, 2, 3, 4, 5);
        C.due("7th", x.tell("athlete 6;athlete 7;"), -1);
        C.due("7th", x.fault(), 3 + 8 * 10);
        C.due("still 5", x.count(0), 5);
        C.due("6th", x.tell("athlete 6;"), 1);
        C.due("7th", x.tell("athlete 7"), -1);
        C.due("not whole", x.fault(), 1 + 8 * 9);
        C.due("7th", x.tell("athlete 0;"), -1);
        C.due("cannot be by itself", x.fault(), 2 + 8 * 8);
        x.athlete(0);
        x.at(1, 1);
        C.due("of the latest tell alone", x.fault(), 2 + 8 * 8);
        x.tell();
        C.due("without one", x.fault(), 0);
    }

    // ---- promises 6 to 8

    private static void athlete() {
        C.part("6 athlete");
        Subject x = new Subject();
        C.due("0", x.athlete(0), -1);
        C.due("10", x.athlete(10), -1);
        C.due("-1", x.athlete(-1), -1);
        C.due("MOST", x.athlete(MOST), -1);
        C.due("1", x.athlete(1), 0);
        C.due("9", x.athlete(9), 1);
        for (int i = 2; i < 6; i++) {
            C.due("athlete", x.athlete(i), i);
        }
        C.due("a 7th", x.athlete(5), -2);
        C.due("a 7th that can't be", x.athlete(10), -1);
        C.due("count(0)", x.count(0), 6);
        C.due("risk", x.of(1, 0), 9);
    }

    private static void set() {
        C.part("7 set");
        int[] least = {1, 2, 0, 0, 0, 1};
        int[] most = {400, 5, 30, 48, 9, 60};
        int[] first = {120, 3, 3, 24, 2, 14};
        Subject x = new Subject();
        for (int i = 0; i < 6; i++) {
            C.due("so " + i, x.set(i, first[i]), false);
            C.due("below " + i, x.set(i, least[i] - 1), false);
            C.due("above " + i, x.set(i, most[i] + 1), false);
            C.due("stays " + i, x.count(10 + i), first[i]);
            C.due("least " + i, x.set(i, least[i]), true);
            C.due("is " + i, x.count(10 + i), least[i]);
            C.due("most " + i, x.set(i, most[i]), true);
            C.due("again " + i, x.set(i, most[i]), false);
            C.due("is " + i, x.count(10 + i), most[i]);
        }
        C.due("none such", x.set(6, 3), false);
        C.due("none such", x.set(-1, 3), false);
        C.due("none such", x.set(MOST, MOST), false);
        C.due("none such", x.set(THROWS, 3), false);
    }

    private static void at() {
        C.part("8 at");
        Subject x = new Subject();
        C.due("now", x.at(0, 0), -1);
        C.due("hour 24", x.at(0, 24), -1);
        C.due("hour -1", x.at(1, -1), -1);
        C.due("day 1000", x.at(1000, 0), -1);
        C.due("day -1", x.at(-1, 0), -1);
        C.due("wide", x.at(MOST, MOST), -1);
        C.due("wide", x.at(THROWS, 5), -1);
        C.due("an hour on", x.at(0, 1), 0);
        C.due("again", x.at(0, 1), -1);
        C.due("a day on", x.at(1, 0), 0);
        C.due("back", x.at(0, 23), -1);
        C.due("no athletes", x.at(30, 0), 0);
        x.athlete(1);
        x.athlete(2);
        C.due("same quarter", x.at(59, 23), 0);
        C.due("next one", x.at(60, 0), 2);
        C.due("its day", x.failure(0, 0, 0), 60);
        C.due("its kind", x.failure(0, 0, 1), 0);
        C.due("once", x.at(60, 1), 0);
        x.file(0, 60, 119, 10, 1);
        x.file(1, 90, 118, 10, 1);
        C.due("one has filed", x.at(90, 5), 1);
        C.due("first has", x.of(0, 2), 1);
        C.due("second has not for its last day", x.failure(1, 1, 0), 90);
        C.due("several passed", x.at(185, 7), 6);
        C.due("one after the other", x.failure(0, 1, 0), 120);
        C.due("one after the other", x.failure(0, 3, 0), 180);
        C.due("day", x.count(1), 185);
        C.due("hour", x.count(2), 7);
        C.due("to the end", x.at(999, 23), 2 * (33 - 6));
        C.due("no further", x.at(999, 23), -1);
        C.due("last of them", x.failure(0, 30, 0), 990);
        Subject y = new Subject();
        y.at(29, 23);
        y.athlete(3);
        C.due("one who came in the quarter ahead", y.at(30, 0), 1);
        Subject z = Subject.filedThroughout();
        C.due("filed whole", z.at(999, 0), 0);
    }

    private static void atNotesAtMostSixty() {
        Subject x = Subject.filedThroughout();
        x.athlete(2);
        x.at(0, 10);
        for (int i = 0; i < 59; i++) {
            C.due("missed", x.test(0, 1, false), 1);
        }
        C.due("failures", x.of(0, 2), 59);
        C.due("60th", x.test(0, 1, false), 1);
        C.due("61st is missed", x.test(0, 1, false), 1);
        C.due("and not noted", x.of(0, 2), 60);
        C.due("but missed", x.of(0, 6), 61);
        C.due("no 61st", x.failure(0, 60, 0), -1);
        Subject y = Subject.withAthletes(1, 1);
        y.file(0, 0, 0, 10, 1);
        y.at(0, 10);
        for (int i = 0; i < 58; i++) {
            y.test(0, 1, false);
        }
        C.due("only the noted ones", y.at(120, 0), 4 + 2);
        C.due("first", y.of(0, 2), 60);
        C.due("second", y.of(1, 2), 4);
    }

    // ---- promise 9

    private static void file() {
        C.part("9 file");
        Subject x = Subject.withAthletes(5);
        C.due("no athlete 1", x.file(1, 1, 1, 10, 1), -1);
        C.due("no athlete -1", x.file(-1, 1, 1, 10, 1), -1);
        C.due("b less than a", x.file(0, 5, 4, 10, 1), -1);
        C.due("61 days", x.file(0, 5, 65, 10, 1), -1);
        C.due("day 1100", x.file(0, 1099, 1100, 10, 1), -1);
        C.due("day -1", x.file(0, -1, 5, 10, 1), -1);
        C.due("wide", x.file(0, THROWS, MOST, 10, 1), -1);
        C.due("wide", x.file(0, MOST, MOST, 10, 1), -1);
        C.due("wide", x.file(0, 1, THROWS, 10, 1), -1);
        C.due("hour 4", x.file(0, 1, 1, 4, 1), -1);
        C.due("hour 23", x.file(0, 1, 1, 23, 1), -1);
        C.due("place -1", x.file(0, 1, 1, 10, -1), -1);
        C.due("place 10", x.file(0, 1, 1, 10, 10), -1);
        C.due("all stays", x.filed(0, 1, 0), -1);
        C.due("60 days", x.file(0, 5, 64, 10, 1), 0);
        C.due("first", x.filed(0, 5, 0), 10);
        C.due("last", x.filed(0, 64, 1), 1);
        C.due("not ahead", x.filed(0, 4, 0), -1);
        C.due("not behind", x.filed(0, 65, 0), -1);
        C.due("last day", x.file(0, 1099, 1099, 22, 9), 0);
        C.due("hour", x.filed(0, 1099, 0), 22);
        C.due("the same", x.file(0, 5, 64, 10, 1), 0);
        C.due("other place", x.file(0, 10, 19, 10, 2), 10);
        C.due("other hour", x.file(0, 19, 20, 11, 2), 2);
        C.due("some new, some so, some other", x.file(0, 3, 12, 10, 1), 3);
        C.due("filed", x.filed(0, 3, 0), 10);
        x.at(10, 5);
        C.due("a behind now", x.file(0, 9, 20, 10, 1), -1);
        C.due("all stays", x.filed(0, 15, 1), 2);
    }

    private static void fileToday() {
        Subject x = Subject.withAthletes(5);
        x.at(10, 8);
        C.due("its hour is now", x.file(0, 10, 10, 8, 1), -1);
        C.due("its hour is past", x.file(0, 10, 12, 7, 1), -1);
        C.due("its hour comes", x.file(0, 10, 12, 9, 1), 0);
        C.due("changed for today", x.file(0, 10, 10, 10, 1), 1);
        x.at(10, 9);
        C.due("later", x.file(0, 10, 10, 12, 1), 1);
        x.at(10, 12);
        C.due("the filed hour is now", x.file(0, 10, 10, 15, 1), -1);
        x.at(10, 13);
        C.due("the filed hour is past", x.file(0, 10, 10, 15, 1), -1);
        C.due("the same, past", x.file(0, 10, 10, 12, 1), -1);
        C.due("tomorrow", x.file(0, 11, 11, 15, 1), 1);
    }

    private static void lateChanges() {
        C.part("9 late changes");
        Subject x = Subject.withAthletes(5);
        x.file(0, 0, 59, 12, 1);
        x.at(1, 12);
        C.due("24 hours", x.file(0, 2, 2, 12, 2), 1);
        C.due("are not late", x.of(0, 4), 0);
        C.due("23 hours by the new one", x.file(0, 2, 2, 11, 2), 1);
        C.due("are late", x.of(0, 4), 1);
        C.due("23 hours by that till now", x.file(0, 2, 2, 15, 2), 1);
        C.due("are late", x.of(0, 4), 2);
        C.due("free so far", x.of(0, 2), 0);
        C.due("27 hours", x.file(0, 2, 2, 16, 2), 1);
        C.due("are not late", x.of(0, 4), 2);
        C.due("what is no change", x.file(0, 2, 2, 16, 2), 0);
        C.due("is not late", x.of(0, 4), 2);
        C.due("one above", x.file(0, 2, 2, 5, 2), 1);
        C.due("is a failure", x.of(0, 2), 1);
        C.due("of kind 1", x.failure(0, 0, 1), 1);
        C.due("on the day it is made", x.failure(0, 0, 0), 1);
        x.set(3, 48);
        C.due("days 2 to 6", x.file(0, 2, 6, 6, 2), 5);
        C.due("two of them late", x.of(0, 4), 5);
        C.due("each a failure", x.of(0, 2), 3);
        x.set(3, 0);
        C.due("LEAD 0", x.file(0, 2, 2, 7, 2), 1);
        C.due("none is late", x.of(0, 4), 5);
        x.set(3, 24);
        x.at(29, 23);
        C.due("still this quarter", x.of(0, 4), 5);
        C.due("for a day of the next", x.file(0, 30, 30, 13, 1), 1);
        C.due("counts in this one", x.of(0, 4), 6);
        x.at(30, 0);
        C.due("anew", x.of(0, 4), 0);
        C.due("first", x.file(0, 30, 30, 14, 1), 1);
        C.due("late", x.of(0, 4), 1);
        C.due("but free", x.of(0, 2), 4);
        x.set(4, 0);
        C.due("FREE 0", x.file(0, 30, 30, 15, 1), 1);
        C.due("failure", x.of(0, 2), 5);
        C.due("filing what was nothing is never late", x.file(0, 60, 60, 15, 1), 0);
    }

    // ---- promises 10 to 12

    private static void test() {
        C.part("10 test");
        Subject x = Subject.withAthletes(5);
        C.due("nothing filed, found", x.test(0, 1, true), 0);
        C.due("nothing filed, not", x.test(0, 1, false), 2);
        x.file(0, 0, 5, 10, 1);
        C.due("ahead of the hour", x.test(0, 1, false), 2);
        x.at(0, 10);
        C.due("other place", x.test(0, 2, false), 2);
        C.due("other place, found", x.test(0, 2, true), 0);
        C.due("found", x.test(0, 1, true), 0);
        C.due("no failures", x.of(0, 2), 0);
        C.due("missed", x.test(0, 1, false), 1);
        C.due("a failure", x.of(0, 2), 1);
        C.due("of kind 2", x.failure(0, 0, 1), 2);
        C.due("today", x.failure(0, 0, 0), 0);
        C.due("tests", x.of(0, 5), 7);
        C.due("missed ones", x.of(0, 6), 1);
        x.at(0, 11);
        C.due("behind the hour", x.test(0, 1, false), 2);
        C.due("no athlete", x.test(1, 1, false), -1);
        C.due("no athlete", x.test(-1, 1, true), -1);
        C.due("no place", x.test(0, 10, true), -1);
        C.due("no place", x.test(0, -1, true), -1);
        C.due("tests", x.of(0, 5), 8);
        x.at(7, 0);
        C.due("unfiled, hour 0, place 0", x.test(0, 0, false), 2);
    }

    private static void appeal() {
        C.part("11 appeal");
        Subject x = Subject.missedOn(5);
        C.due("no failure 1", x.appeal(0, 1), false);
        C.due("no failure -1", x.appeal(0, -1), false);
        C.due("no athlete 1", x.appeal(1, 0), false);
        C.due("no athlete", x.appeal(THROWS, MOST), false);
        x.at(19, 23);
        C.due("14 days behind", x.appeal(0, 0), true);
        C.due("struck", x.failure(0, 0, 2), 1);
        C.due("again", x.appeal(0, 0), false);
        C.due("still one", x.of(0, 2), 1);
        Subject y = Subject.missedOn(5);
        y.at(20, 0);
        C.due("15 days behind", y.appeal(0, 0), false);
        C.due("not struck", y.failure(0, 0, 2), 0);
        y.set(5, 15);
        C.due("APPEAL 15", y.appeal(0, 0), true);
        C.due("points", y.of(0, 1), 0);
    }

    private static void count() {
        C.part("12 count");
        Subject x = Subject.withAthletes(5, 6);
        x.at(7, 3);
        x.feed("at 8 8;");
        int[] due = {2, 7, 3, 7, -1, -1, -1, -1, -1, -1, 120, 3, 3, 24, 2, 14, -1};
        for (int i = 0; i < due.length; i++) {
            C.due("count(" + i + ")", x.count(i), due[i]);
        }
        C.due("count(-1)", x.count(-1), -1);
        C.due("count(MOST)", x.count(MOST), -1);
        C.due("count(THROWS)", x.count(THROWS), -1);
    }

    // ---- promises 13 to 17

    private static void of() {
        C.part("13 of");
        Subject x = new Subject();
        x.at(3, 0);
        x.athlete(4);
        int[] fresh = {4, 0, 0, 0, 0, 0, 0, -1, 4, 3};
        for (int i = 0; i < 10; i++) {
            C.due("of(0, " + i + ")", x.of(0, i), fresh[i]);
        }
        x.file(0, 5, 5, 10, 1);
        x.at(5, 10);
        C.due("since he came", x.of(0, 8), 4 * 3);
        x.test(0, 1, false);
        C.due("tested today, a point", x.of(0, 8), 4 * 2);
        x.at(15, 10);
        int[] then = {4, 1, 1, 0, 0, 1, 1, 5, 4 * 11 * 2, 3};
        for (int i = 0; i < 10; i++) {
            C.due("then of(0, " + i + ")", x.of(0, i), then[i]);
        }
        x.test(0, 1, false);
        C.due("a void one, too", x.of(0, 8), 4 * 2);
        C.due("its day", x.of(0, 7), 15);
        C.due("what 10", x.of(0, 10), THROWS);
        C.due("what -1", x.of(0, -1), THROWS);
        C.due("athlete 1", x.of(1, 0), THROWS);
        C.due("athlete -1", x.of(-1, 0), THROWS);
        C.due("wide", x.of(MOST, THROWS), THROWS);
        Subject y = Subject.missedOn(0, 3, 6);
        C.due("points go with the violation", y.of(0, 1), 0);
        C.due("violations", y.of(0, 3), 1);
        Subject z = Subject.missedOn(2, 5);
        z.at(121, 23);
        C.due("points in the window", z.of(0, 1), 2);
        z.at(122, 0);
        C.due("one is out of it", z.of(0, 1), 1);
        z.at(125, 0);
        C.due("both are", z.of(0, 1), 0);
    }

    private static void filed() {
        C.part("14 filed");
        Subject x = Subject.withAthletes(5, 6);
        x.file(1, 0, 3, 5, 0);
        x.file(1, 4, 4, 22, 9);
        C.due("hour", x.filed(1, 0, 0), 5);
        C.due("place", x.filed(1, 0, 1), 0);
        C.due("hour", x.filed(1, 4, 0), 22);
        C.due("place", x.filed(1, 4, 1), 9);
        C.due("nothing", x.filed(1, 5, 0), -1);
        C.due("other athlete", x.filed(0, 0, 0), -1);
        C.due("what 2", x.filed(1, 0, 2), -1);
        C.due("what -1", x.filed(1, 0, -1), -1);
        C.due("day -1", x.filed(1, -1, 0), -1);
        C.due("day 1100", x.filed(1, 1100, 0), -1);
        C.due("day MOST", x.filed(1, MOST, 0), -1);
        C.due("athlete 2", x.filed(2, 0, 0), -1);
        C.due("athlete -1", x.filed(-1, 0, 0), -1);
    }

    private static void rowOf(Subject x, int what, int... due) {
        for (int k = 0; k < due.length; k++) {
            C.due("failure(0, " + k + ", " + what + ")", x.failure(0, k, what), due[k]);
        }
        C.due("no more", x.failure(0, due.length, what), -1);
    }

    private static void failuresThatCount() {
        C.part("15 failure: those that count");
        Subject x = Subject.missedOn(4, 6, 7, 9, 10);
        rowOf(x, 0, 4, 6, 7, 9, 10);
        rowOf(x, 1, 2, 2, 2, 2, 2);
        rowOf(x, 2, 0, 0, 0, 0, 0);
        rowOf(x, 3, 1, 0, 1, 0, 1);
        x.appeal(0, 0);
        rowOf(x, 2, 1, 0, 0, 0, 0);
        rowOf(x, 3, 0, 1, 0, 1, 0);
        x.appeal(0, 1);
        rowOf(x, 3, 0, 0, 1, 0, 1);
        x.set(2, 0);
        rowOf(x, 3, 0, 0, 1, 1, 1);
        x.set(2, 30);
        rowOf(x, 3, 0, 0, 1, 0, 0);
        C.due("what 5", x.failure(0, 0, 5), -1);
        C.due("what -1", x.failure(0, 0, -1), -1);
        C.due("k -1", x.failure(0, -1, 0), -1);
        C.due("k MOST", x.failure(0, MOST, 0), -1);
        C.due("athlete 1", x.failure(1, 0, 0), -1);
        C.due("athlete -1", x.failure(-1, 0, 0), -1);
    }

    private static void failuresThatAreOpen() {
        C.part("15 failure: those that are open");
        Subject x = Subject.missedOn(4, 5, 10, 20, 30);
        rowOf(x, 3, 1, 0, 1, 1, 1);
        rowOf(x, 4, 0, 0, 0, 0, 1);
        x.at(500, 0);
        rowOf(x, 4, 0, 0, 0, 0, 1);
        C.due("whatever WINDOW, but for POINTS", x.of(0, 1), 0);
        Subject y = Subject.missedOn(0, 10, 120, 125);
        C.due("0 is out of the window at 120", y.violation(0, 0), 125);
        rowOf(y, 4, 0, 0, 0, 0);
        Subject z = Subject.missedOn(0, 10, 119);
        C.due("0 is in the window at 119", z.violation(0, 0), 119);
        Subject w = Subject.missedOn(0, 10, 120);
        C.due("none", w.violation(0, 0), -1);
        rowOf(w, 4, 1, 1, 1);
        C.due("points", w.of(0, 1), 2);
    }

    private static void violation() {
        C.part("16 violation");
        Subject x = Subject.missedOn(0, 3, 6, 9, 12, 15, 18);
        C.due("first", x.violation(0, 0), 6);
        C.due("second", x.violation(0, 1), 15);
        C.due("no third", x.violation(0, 2), -1);
        C.due("-1", x.violation(0, -1), -1);
        C.due("MOST", x.violation(0, MOST), -1);
        C.due("athlete 1", x.violation(1, 0), -1);
        C.due("athlete -1", x.violation(-1, 0), -1);
        C.due("violations", x.of(0, 3), 2);
    }

    private static void settingsTellAnew() {
        C.part("16 settings tell anew");
        Subject x = Subject.missedOn(0, 3, 6, 9, 12, 15, 18);
        x.set(1, 2);
        C.due("LIMIT 2", x.of(0, 3), 3);
        C.due("first", x.violation(0, 0), 3);
        C.due("third", x.violation(0, 2), 15);
        x.set(1, 5);
        C.due("LIMIT 5", x.of(0, 3), 1);
        C.due("points", x.of(0, 1), 2);
        x.set(0, 7);
        C.due("WINDOW 7 holds three", x.of(0, 3), 0);
        x.set(1, 3);
        C.due("WINDOW 7, LIMIT 3", x.of(0, 3), 2);
        x.set(0, 6);
        C.due("WINDOW 6", x.of(0, 3), 0);
        C.due("points", x.of(0, 1), 2);
        x.set(0, 120);
        x.set(2, 4);
        C.due("NOTICE 4", x.of(0, 3), 1);
        C.due("its day", x.violation(0, 0), 12);
        x.set(2, 3);
        C.due("as it was", x.violation(0, 1), 15);
        C.due("struck", x.appeal(0, 2), true);
        C.due("first", x.violation(0, 0), 9);
        C.due("second", x.violation(0, 1), 18);
    }

    private static void hole() {
        C.part("17 hole");
        Subject x = Subject.withAthletes(5, 6);
        C.due("0", x.hole(0, 0), 0);
        C.due("35", x.hole(0, 35), 1050);
        C.due("36", x.hole(0, 36), -1);
        C.due("-1", x.hole(0, -1), -1);
        C.due("MOST", x.hole(0, MOST), -1);
        C.due("wraps to 0", x.hole(0, 1 << 31), -1);
        C.due("athlete 2", x.hole(2, 0), -1);
        C.due("athlete -1", x.hole(-1, 0), -1);
        x.file(0, 1050, 1078, 10, 1);
        C.due("35", x.hole(0, 35), 1079);
        x.file(0, 1079, 1079, 10, 1);
        C.due("35", x.hole(0, 35), -1);
        x.file(0, 30, 44, 10, 1);
        x.file(0, 46, 59, 10, 1);
        C.due("1", x.hole(0, 1), 45);
        C.due("the other", x.hole(1, 1), 30);
        C.due("2", x.hole(0, 2), 60);
    }

    // ---- promises 18 to 21

    private static void lot() {
        C.part("18 lot");
        Subject x = Subject.withAthletes(1, 2, 3);
        // x becomes 12345, then 1406932606, then 654583775: modulo 6 it is 3, a third one.
        C.due("lot(0, 1)", x.lot(0, 1), 2);
        // Then modulo 1 and 2 it is 1: the second one; then the first one is left.
        C.due("lot(0, 2)", x.lot(0, 2), 21);
        C.due("lot(0, 3)", x.lot(0, 3), 210);
        C.due("again", x.lot(0, 3), 210);
        C.due("lot(0, 4)", x.lot(0, 4), -1);
        C.due("lot(0, 0)", x.lot(0, 0), -1);
        C.due("lot(0, -1)", x.lot(0, -1), -1);
        C.due("lot(0, MOST)", x.lot(0, MOST), -1);
        C.due("lot(-1, 1)", x.lot(-1, 1), -1);
        C.due("lot(THROWS, 1)", x.lot(THROWS, 1), -1);
        // (1103515245 * 2147483647 + 12345) modulo 2147483648 is 1043980748: modulo 6 it is 2.
        C.due("lot(MOST, 1)", x.lot(MOST, 1), 1);
        int[] drawn = new int[3];
        for (int seed = 0; seed < 300; seed++) {
            drawn[x.lot(seed, 1)]++;
        }
        C.holds("lots weigh", drawn[0] > 30 && drawn[0] < 70 && drawn[2] > 120);
        for (int seed = 0; seed < 80; seed++) {
            int all = x.lot(seed, 3);
            int bits = 1 << all / 100 | 1 << all / 10 % 10 | 1 << all % 10;
            C.due("each once, seed " + seed, bits, 7);
            C.due("the first of three", all / 100, x.lot(seed, 1));
        }
        Subject y = Subject.withAthletes(1);
        C.due("the only one", y.lot(99, 1), 0);
        Subject z = Subject.withAthletes(1, 9);
        boolean zeroAhead = false;
        for (int seed = 0; seed < 50; seed++) {
            zeroAhead |= z.lot(seed, 2) == 1;
        }
        C.holds("0 ahead of 1 is 1", zeroAhead);
    }

    private static void chance() {
        C.part("19 chance");
        Subject x = Subject.withAthletes(2, 4, 6);
        C.due("upper", x.chance(0, false), 1);
        C.due("lower", x.chance(0, true), 6);
        C.due("upper", x.chance(1, false), 1);
        C.due("lower", x.chance(1, true), 3);
        C.due("upper", x.chance(2, false), 1);
        C.due("lower", x.chance(2, true), 2);
        C.due("athlete 3", x.chance(3, false), -1);
        C.due("athlete -1", x.chance(-1, true), -1);
        C.due("athlete MOST", x.chance(MOST, true), -1);
        x.at(4, 0);
        x.test(0, 0, false);
        // 2 of 2 and 20 and 30.
        C.due("upper", x.chance(0, false), 1);
        C.due("lower", x.chance(0, true), 26);
        C.due("upper", x.chance(2, false), 15);
        C.due("lower", x.chance(2, true), 26);
        Subject z = Subject.withAthletes(3, 4);
        C.due("in least terms as it is", z.chance(0, false), 3);
        C.due("in least terms as it is", z.chance(1, true), 7);
        Subject y = Subject.withAthletes(7);
        C.due("the only one", y.chance(0, false), 1);
        C.due("the only one", y.chance(0, true), 1);
    }

    private static void round() {
        C.part("20 round");
        Subject x = Subject.withAthletes(1, 2, 3, 4, 5, 6);
        C.due("none", x.round(3, 10, 0), -1);
        C.due("none", x.round(3, 10, 1), -1);
        C.due("no hours", x.round(3, -1, 0), 0);
        C.due("no athletes", x.round(3, -1, 1), 0);
        x.file(0, 3, 3, 10, 7);
        x.file(1, 3, 3, 10, 2);
        C.due("of several the least", x.round(3, 10, 0), 2);
        C.due("who", x.round(3, 10, 1), 2);
        x.file(2, 3, 3, 10, 7);
        C.due("most", x.round(3, 10, 0), 7);
        C.due("who", x.round(3, 10, 1), 5);
        x.file(3, 3, 3, 22, 0);
        x.file(4, 3, 3, 22, 0);
        x.file(5, 3, 3, 5, 9);
        C.due("hour 22", x.round(3, 22, 0), 0);
        C.due("who", x.round(3, 22, 1), 24);
        C.due("hour 5", x.round(3, 5, 0), 9);
        C.due("hours", x.round(3, -1, 0), 3);
        C.due("met", x.round(3, -1, 1), 5);
        C.due("hour 0", x.round(3, 0, 0), -1);
        C.due("hour 23", x.round(3, 23, 0), -1);
        C.due("hour 24", x.round(3, 24, 0), -1);
        C.due("hour -2", x.round(3, -2, 0), -1);
        C.due("hour that wraps to 10", x.round(3, 858993469, 0), -1);
        C.due("what 2", x.round(3, 10, 2), -1);
        C.due("what -1", x.round(3, -1, -1), -1);
        C.due("what 2, all hours", x.round(3, -1, 2), -1);
        C.due("day -1", x.round(-1, -1, 0), -1);
        C.due("day 1100", x.round(1100, -1, 0), -1);
        C.due("day 1099", x.round(1099, -1, 0), 0);
        C.due("other day", x.round(4, -1, 1), 0);
    }

    private static void there() {
        C.part("21 there");
        Subject x = Subject.withAthletes(1, 2, 3);
        x.file(0, 3, 3, 10, 7);
        x.file(2, 3, 3, 10, 7);
        x.file(1, 3, 3, 11, 7);
        C.due("two", x.there(3, 10, 7), 5);
        C.due("one", x.there(3, 11, 7), 2);
        C.due("nobody at that place", x.there(3, 10, 6), 0);
        C.due("nobody in that hour", x.there(3, 12, 7), 0);
        C.due("nobody on that day", x.there(4, 10, 7), 0);
        C.due("hour 0", x.there(3, 0, 0), -1);
        C.due("hour 4", x.there(3, 4, 0), -1);
        C.due("hour 5", x.there(3, 5, 0), 0);
        C.due("hour 22", x.there(3, 22, 0), 0);
        C.due("hour 23", x.there(3, 23, 0), -1);
        C.due("hour 24", x.there(3, 24, 0), -1);
        C.due("hour -1", x.there(3, -1, 0), -1);
        C.due("place 0", x.there(3, 10, 0), 0);
        C.due("place 9", x.there(3, 10, 9), 0);
        C.due("place 10", x.there(3, 10, 10), -1);
        C.due("place -1", x.there(3, 10, -1), -1);
        C.due("place of the next hour", x.there(3, 10, 17), -1);
        C.due("day -1", x.there(-1, 10, 7), -1);
        C.due("day 1100", x.there(1100, 10, 7), -1);
        C.due("day 1099", x.there(1099, 10, 7), 0);
        x.file(1, 1099, 1099, 22, 9);
        C.due("day 1099, filed", x.there(1099, 22, 9), 2);
        x.file(1, 3, 3, 10, 7);
        C.due("three", x.there(3, 10, 7), 7);
        C.due("none any more", x.there(3, 11, 7), 0);
        C.due("a new object, hour 0", new Subject().there(0, 0, 0), -1);
        C.due("a new object, hour 10", new Subject().there(0, 10, 0), 0);
        C.due("athletes, nothing filed", Subject.withAthletes(4).there(0, 10, 0), 0);
    }

    // ---- promises 22 to 25

    private static void danger() {
        C.part("22 danger");
        Subject x = Subject.missedOn(0, 3);
        C.due("not noticed", x.danger(0), 0);
        x.at(5, 23);
        C.due("not noticed", x.danger(0), 0);
        x.at(6, 0);
        C.due("one more", x.danger(0), 1);
        C.due("only asked", x.of(0, 2), 2);
        x.at(119, 23);
        C.due("in the window", x.danger(0), 1);
        x.at(120, 0);
        C.due("out of it", x.danger(0), 0);
        x.set(1, 2);
        C.due("LIMIT 2 had a violation on 3", x.danger(0), 0);
        Subject y = Subject.missedOn(0, 3, 6);
        y.set(2, 0);
        C.due("one today already, another not", y.danger(0), 0);
        C.due("athlete 1", y.danger(1), -1);
        C.due("athlete -1", y.danger(-1), -1);
        Subject z = Subject.filedThroughout();
        C.due("none so far", z.danger(0), 0);
        z.set(2, 0);
        z.at(0, 10);
        for (int i = 0; i < 60; i++) {
            z.test(0, 1, false);
        }
        C.due("sixty", z.of(0, 3), 20);
        C.due("points", z.of(0, 1), 0);
        C.due("a 61st", z.danger(0), 0);
        C.due("struck", z.appeal(0, 59), true);
        C.due("points", z.of(0, 1), 2);
        C.due("noted, however many there are", z.danger(0), 1);
        C.due("but it is not", z.of(0, 2), 60);
    }

    private static void easier() {
        C.part("23 easier");
        Subject x = Subject.filedThroughout();
        C.due("no points", x.easier(0), -1);
        x.missOn(2);
        C.due("one", x.easier(0), 122);
        x.missOn(6);
        C.due("two", x.easier(0), 122);
        x.at(121, 23);
        C.due("the day ahead", x.easier(0), 122);
        x.at(122, 0);
        C.due("the next one", x.easier(0), 126);
        x.at(126, 0);
        C.due("none any more", x.easier(0), -1);
        x.set(0, 400);
        C.due("WINDOW 400", x.easier(0), 402);
        x.set(0, 1);
        C.due("WINDOW 1", x.easier(0), -1);
        C.due("athlete 1", x.easier(1), -1);
        C.due("athlete -1", x.easier(-1), -1);
        Subject y = Subject.missedOn(0, 3, 6);
        C.due("closed by a violation", y.easier(0), -1);
        y.missOn(20);
        C.due("one behind it", y.easier(0), 140);
        C.due("without it", y.appeal(0, 3), true);
        C.due("struck", y.easier(0), -1);
    }

    private static void without() {
        C.part("24 without");
        Subject x = Subject.missedOn(0, 2, 4, 8);
        // 0, 4 and 8 count; without 0 it is 2 and 8; without 4 it is 0 and 8.
        C.due("violations", x.of(0, 3), 1);
        C.due("0", x.without(0, 0), 0);
        C.due("1 does not count", x.without(0, 1), 1);
        C.due("2", x.without(0, 2), 0);
        C.due("3", x.without(0, 3), 0);
        C.due("4 is none", x.without(0, 4), -1);
        C.due("-1 is none", x.without(0, -1), -1);
        C.due("athlete 1", x.without(1, 0), -1);
        C.due("athlete -1", x.without(-1, 0), -1);
        C.due("only asked", x.failure(0, 0, 2), 0);
        x.appeal(0, 1);
        C.due("a struck one", x.without(0, 1), 1);
        Subject y = Subject.missedOn(0, 2, 4, 6, 8);
        y.set(2, 4);
        C.due("0, 4, 8", y.of(0, 3), 1);
        C.due("without 0: 2, 6", y.without(0, 0), 0);
        y.set(1, 2);
        C.due("violation on 4", y.of(0, 3), 1);
        C.due("without 4: on 6", y.without(0, 2), 1);
    }

    private static void worst() {
        C.part("25 worst");
        Subject x = Subject.withAthletes(9, 1, 1, 1);
        C.due("all alike: the least", x.worst(), 0);
        for (int i = 0; i < 4; i++) {
            x.file(i, 0, 29, 10, 1);
        }
        x.set(2, 0);
        x.at(0, 10);
        x.miss(1, 1);
        C.due("most points", x.worst(), 1);
        x.miss(0, 1);
        C.due("of several the least", x.worst(), 0);
        x.miss(2, 2);
        x.appeal(2, 0);
        C.due("most failures", x.worst(), 2);
        x.miss(1, 1);
        C.due("points ahead of failures", x.worst(), 1);
        x.miss(3, 3);
        C.due("violations ahead of points", x.worst(), 3);
        x.appeal(3, 0);
        C.due("two points, three failures", x.worst(), 3);
        C.due("none", new Subject().worst(), -1);
        // Violations 1, 2, 0; points 2, 0, 2.
        Subject y = Subject.withAthletes(1, 1, 1);
        for (int i = 0; i < 3; i++) {
            y.file(i, 0, 29, 10, 1);
        }
        y.set(2, 0);
        y.at(0, 10);
        y.miss(0, 5);
        C.due("a violation", y.worst(), 0);
        y.miss(2, 2);
        C.due("still that one", y.worst(), 0);
        y.miss(1, 6);
        C.due("two violations, no points", y.worst(), 1);
        y.appeal(1, 0);
        C.due("alike but for failures", y.worst(), 1);
        y.appeal(1, 1);
        C.due("fewer points, more failures", y.worst(), 0);
        y.appeal(0, 0);
        C.due("as many points and violations, fewer failures", y.of(0, 1), 1);
        C.due("most failures", y.worst(), 1);
    }
}
