/** Terms 1, sentence by sentence: at each bound that it names, and one step to each side. */
public final class Terms1Tests {
    private static final int NONE = Subject.NONE;
    private static final int MOST = Subject.MOST;
    private static final int LEAST = Subject.LEAST;

    private static final Check C = new Check();

    public static void main(String[] args) {
        daysOfTime();
        hoursOfTime();
        timeAtFirst();
        quarters();
        athletes();
        risks();
        daysOfFiling();
        hoursOfFiling();
        placesOfFiling();
        nothingAtFirst();
        settings();
        lengthOfFiling();
        filingBehindToday();
        filingTodayByNewHour();
        filingTodayByFiledHour();
        changes();
        lateByOldHour();
        lateByNewHour();
        lateByLeadAtItsBounds();
        lateDaysOfOneFiling();
        lateChangesAnew();
        failuresAboveFree();
        failuresAboveFreeInOneFiling();
        neverBack();
        firstDayOfQuarter();
        quartersPassed();
        quartersFiledWhole();
        lastQuarterOfTime();
        cameInQuarterAhead();
        testAtPlaceAndHour();
        testOnDay();
        C.finish();
    }

    // ---- "TIME: DAY 0 to 999, HOUR 0 to 23 (0, 0 at first)."

    private static void daysOfTime() {
        C.part("DAY 0 to 999");
        Subject x = new Subject();
        C.due("-1", x.at(-1, 23), NONE);
        C.due("0", x.at(0, 1), 0);
        C.due("1", x.at(1, 0), 0);
        C.due("1000", x.at(1000, 0), NONE);
        C.due("1001", x.at(1001, 0), NONE);
        C.due("most", x.at(MOST, 0), NONE);
        C.due("least", x.at(LEAST, 0), NONE);
        // 24 times this is 8, if ints wrap.
        C.due("hours that wrap", x.at(178956971, 0), NONE);
        C.due("still 1", x.count(1), 1);
        C.due("998", x.at(998, 0), 0);
        C.due("999", x.at(999, 0), 0);
        C.due("1000 from 999", x.at(1000, 0), NONE);
        C.due("is 999", x.count(1), 999);
    }

    private static void hoursOfTime() {
        C.part("HOUR 0 to 23");
        Subject x = new Subject();
        C.due("-1", x.at(1, -1), NONE);
        C.due("least", x.at(1, LEAST), NONE);
        C.due("24", x.at(0, 24), NONE);
        C.due("25", x.at(0, 25), NONE);
        C.due("most", x.at(0, MOST), NONE);
        C.due("still 0", x.count(1) + x.count(2), 0);
        C.due("22", x.at(0, 22), 0);
        C.due("23", x.at(0, 23), 0);
        C.due("is 23", x.count(2), 23);
        C.due("0", x.at(1, 0), 0);
        C.due("is 0", x.count(2), 0);
        C.due("1", x.at(1, 1), 0);
        C.due("24 on the last day", x.at(999, 24), NONE);
        C.due("23 on the last day", x.at(999, 23), 0);
        C.due("none behind that", x.at(999, 23), NONE);
    }

    private static void timeAtFirst() {
        C.part("0, 0 at first");
        Subject x = new Subject();
        C.due("DAY", x.count(1), 0);
        C.due("HOUR", x.count(2), 0);
        C.due("it is 0, 0 already", x.at(0, 0), NONE);
        C.due("the hour behind it", x.at(0, 1), 0);
    }

    // ---- "QUARTER: a DAY by 30, cut."

    private static void quarters() {
        C.part("a DAY by 30, cut");
        Subject x = Subject.withAthletes(5);
        for (int q = 0; q <= 35; q++) {
            C.due("first of quarter " + q, x.hole(0, q), 30 * q);
        }
        x.file(0, 0, 28, 10, 1);
        C.due("29 is of quarter 0", x.hole(0, 0), 29);
        x.file(0, 29, 29, 10, 1);
        C.due("30 is not", x.hole(0, 0), NONE);
        C.due("but of quarter 1", x.hole(0, 1), 30);
    }

    // ---- "ATHLETES, at most 6, numbered from 0 on as they came, each with a RISK 1 to 9."

    private static void athletes() {
        C.part("ATHLETES, at most 6, numbered from 0 on as they came");
        Subject x = new Subject();
        for (int i = 0; i < 6; i++) {
            C.due("none yet " + i, x.of(i, 0), Subject.THROWS);
            C.due("number " + i, x.athlete(9 - i), i);
            C.due("as many as came", x.count(0), i + 1);
        }
        C.due("a 7th", x.athlete(1), -2);
        C.due("an 8th", x.athlete(1), -2);
        C.due("still 6", x.count(0), 6);
        for (int i = 0; i < 6; i++) {
            C.due("risk of " + i, x.of(i, 0), 9 - i);
        }
        C.due("number 6", x.of(6, 0), Subject.THROWS);
        C.due("number -1", x.of(-1, 0), Subject.THROWS);
    }

    private static void risks() {
        C.part("each with a RISK 1 to 9");
        Subject x = new Subject();
        int[] wrong = {LEAST, -9, -1, 0, 10, 11, 257, MOST};
        for (int risk : wrong) {
            C.due("risk " + risk, x.athlete(risk), NONE);
        }
        C.due("none came", x.count(0), 0);
        int[] right = {1, 2, 8, 9};
        for (int i = 0; i < right.length; i++) {
            C.due("risk " + right[i], x.athlete(right[i]), i);
            C.due("is " + right[i], x.of(i, 0), right[i]);
        }
    }

    // ---- "FILED of an ATHLETE for a DAY (0 to 1099): an HOUR 5 to 22 and a PLACE 0 to 9, or
    // nothing (at first)."

    private static void daysOfFiling() {
        C.part("FILED for a DAY (0 to 1099)");
        Subject x = Subject.withAthletes(5);
        C.due("-1", x.file(0, -1, -1, 10, 1), NONE);
        C.due("-1 to 0", x.file(0, -1, 0, 10, 1), NONE);
        C.due("1100", x.file(0, 1100, 1100, 10, 1), NONE);
        C.due("1099 to 1100", x.file(0, 1099, 1100, 10, 1), NONE);
        C.due("most", x.file(0, MOST, MOST, 10, 1), NONE);
        C.due("least", x.file(0, LEAST, LEAST, 10, 1), NONE);
        C.due("0 is free", x.filed(0, 0, 0), NONE);
        C.due("1099 is free", x.filed(0, 1099, 0), NONE);
        for (int day : new int[] {0, 1, 1098, 1099}) {
            C.due("file for " + day, x.file(0, day, day, 10, 1), 0);
            C.due("filed for " + day, x.filed(0, day, 0), 10);
            C.due("there on " + day, x.there(day, 10, 1), 1);
            C.due("round on " + day, x.round(day, 10, 0), 1);
        }
        for (int day : new int[] {LEAST, -1, 1100, 1101, MOST}) {
            C.due("filed for " + day, x.filed(0, day, 0), NONE);
            C.due("there on " + day, x.there(day, 10, 1), NONE);
            C.due("round on " + day, x.round(day, 10, 0), NONE);
        }
    }

    private static void hoursOfFiling() {
        C.part("an HOUR 5 to 22");
        Subject x = Subject.withAthletes(5);
        for (int hour : new int[] {LEAST, -5, -1, 0, 4, 23, 24, 29, MOST}) {
            C.due("hour " + hour, x.file(0, 1, 1, hour, 1), NONE);
        }
        C.due("nothing", x.filed(0, 1, 0), NONE);
        for (int hour : new int[] {5, 6, 21, 22}) {
            C.due("hour " + hour, x.file(0, hour, hour, hour, 1), 0);
            C.due("is " + hour, x.filed(0, hour, 0), hour);
        }
    }

    private static void placesOfFiling() {
        C.part("a PLACE 0 to 9");
        Subject x = Subject.withAthletes(5);
        for (int place : new int[] {LEAST, -10, -1, 10, 11, 20, MOST}) {
            C.due("place " + place, x.file(0, 1, 1, 10, place), NONE);
        }
        C.due("nothing", x.filed(0, 1, 1), NONE);
        for (int place : new int[] {0, 1, 8, 9}) {
            C.due("place " + place, x.file(0, 1 + place, 1 + place, 10, place), 0);
            C.due("is " + place, x.filed(0, 1 + place, 1), place);
            C.due("its hour", x.filed(0, 1 + place, 0), 10);
        }
    }

    private static void nothingAtFirst() {
        C.part("or nothing (at first)");
        Subject x = Subject.withAthletes(5);
        x.file(0, 1, 1, 5, 0);
        x.athlete(6);
        for (int day : new int[] {0, 1, 2, 29, 30, 999, 1000, 1099}) {
            C.due("hour of the second for " + day, x.filed(1, day, 0), NONE);
            C.due("place of the second for " + day, x.filed(1, day, 1), NONE);
        }
        C.due("the least that is not nothing", x.filed(0, 1, 0), 5);
        C.due("the least that is not nothing", x.filed(0, 1, 1), 0);
    }

    // ---- "SETTINGS by numbers, what they may be and what they are at first: 0 WINDOW 1 to 400
    // (120); 1 LIMIT 2 to 5 (3); 2 NOTICE 0 to 30 (3); 3 LEAD 0 to 48 (24); 4 FREE 0 to 9 (2); 5
    // APPEAL 1 to 60 (14)."

    private static void settings() {
        setting(0, "WINDOW", 1, 400, 120);
        setting(1, "LIMIT", 2, 5, 3);
        setting(2, "NOTICE", 0, 30, 3);
        setting(3, "LEAD", 0, 48, 24);
        setting(4, "FREE", 0, 9, 2);
        setting(5, "APPEAL", 1, 60, 14);
    }

    private static void setting(int number, String name, int least, int most, int atFirst) {
        C.part(number + " " + name + " " + least + " to " + most + " (" + atFirst + ")");
        Subject x = new Subject();
        C.due("at first", x.count(10 + number), atFirst);
        for (int v : new int[] {LEAST, least - 2, least - 1, most + 1, most + 2, MOST}) {
            C.due("set to " + v, x.set(number, v), false);
            C.due("stays", x.count(10 + number), atFirst);
        }
        for (int v : new int[] {least, least + 1, most - 1, most}) {
            C.due("set to " + v, x.set(number, v), true);
            C.due("is", x.count(10 + number), v);
        }
        int[] all = {120, 3, 3, 24, 2, 14};
        for (int i = 0; i < 6; i++) {
            C.due("no other one, " + i, x.count(10 + i), i == number ? most : all[i]);
        }
    }

    // ---- "To FILE for DAYS a to b (60 at most) an HOUR and a PLACE"

    private static void lengthOfFiling() {
        C.part("DAYS a to b (60 at most)");
        Subject x = Subject.withAthletes(5);
        C.due("b less than a", x.file(0, 100, 99, 10, 1), NONE);
        C.due("b far less than a", x.file(0, 100, 0, 10, 1), NONE);
        C.due("61 days", x.file(0, 100, 160, 10, 1), NONE);
        C.due("62 days", x.file(0, 100, 161, 10, 1), NONE);
        C.due("a length that wraps", x.file(0, 100, LEAST, 10, 1), NONE);
        C.due("a length that wraps", x.file(0, LEAST, MOST, 10, 1), NONE);
        C.due("a length that wraps", x.file(0, MOST, LEAST, 10, 1), NONE);
        C.due("all stays", x.hole(0, 3), 90);
        C.due("all stays", x.filed(0, 100, 0), NONE);
        C.due("1 day", x.file(0, 100, 100, 10, 1), 0);
        C.due("no more than it", x.filed(0, 99, 0) + x.filed(0, 101, 0), 2 * NONE);
        C.due("59 days", x.file(0, 200, 258, 11, 2), 0);
        C.due("60 days", x.file(0, 300, 359, 12, 3), 0);
        C.due("none ahead", x.filed(0, 299, 0), NONE);
        C.due("first", x.filed(0, 300, 0), 12);
        C.due("last", x.filed(0, 359, 1), 3);
        C.due("none behind", x.filed(0, 360, 0), NONE);
        C.due("all of them", x.hole(0, 10), NONE);
        C.due("all of them", x.hole(0, 11), NONE);
        C.due("the last 60", x.file(0, 1040, 1099, 10, 1), 0);
        C.due("the last 61", x.file(0, 1039, 1099, 10, 1), NONE);
    }

    // ---- "it can be done if a is behind DAY; or a is DAY, and both that HOUR and the one FILED
    // for DAY (if any) are behind HOUR."

    private static void filingBehindToday() {
        C.part("if a is behind DAY");
        Subject x = Subject.withAthletes(5);
        x.at(10, 8);
        C.due("yesterday", x.file(0, 9, 9, 22, 1), NONE);
        C.due("from yesterday on", x.file(0, 9, 11, 22, 1), NONE);
        C.due("nothing for any of them",
            x.filed(0, 9, 0) + x.filed(0, 10, 0) + x.filed(0, 11, 0), 3 * NONE);
        C.due("tomorrow, an hour ahead of this one", x.file(0, 11, 11, 5, 1), 0);
        C.due("tomorrow again, filed ahead of this hour", x.file(0, 11, 11, 6, 1), 1);
        C.due("the day behind that", x.file(0, 12, 12, 8, 1), 0);
        x.at(999, 23);
        C.due("the last day is over", x.file(0, 999, 999, 22, 1), NONE);
        C.due("behind it", x.file(0, 1000, 1000, 5, 1), 0);
    }

    private static void filingTodayByNewHour() {
        C.part("or a is DAY, and that HOUR is behind HOUR");
        Subject x = Subject.withAthletes(5, 5);
        x.file(1, 10, 10, 20, 1);
        x.at(10, 8);
        for (int who = 0; who < 2; who++) {
            C.due("the hour ahead of now", x.file(who, 10, 12, 7, 1), NONE);
            C.due("this hour", x.file(who, 10, 12, 8, 1), NONE);
            C.due("nothing behind it", x.filed(who, 11, 0), NONE);
            C.due("the hour behind now", x.file(who, 10, 12, 9, 1), who);
            C.due("is filed", x.filed(who, 10, 0), 9);
            C.due("is filed behind it", x.filed(who, 12, 0), 9);
        }
        Subject y = Subject.withAthletes(5);
        C.due("at 0, 0 every hour is behind", y.file(0, 0, 0, 5, 0), 0);
        Subject z = Subject.withAthletes(5);
        z.at(0, 21);
        C.due("the last hour", z.file(0, 0, 0, 22, 0), 0);
        Subject w = Subject.withAthletes(5);
        w.at(0, 22);
        C.due("no hour is left", w.file(0, 0, 0, 22, 0), NONE);
    }

    private static void filingTodayByFiledHour() {
        C.part("and the one FILED for DAY (if any) is behind HOUR");
        Subject x = Subject.withAthletes(5, 6);
        x.file(0, 10, 12, 10, 1);
        x.at(10, 9);
        C.due("it comes", x.file(0, 10, 10, 10, 2), 1);
        x.at(10, 10);
        C.due("it is now", x.file(0, 10, 12, 15, 3), NONE);
        C.due("it is now, the same", x.file(0, 10, 10, 10, 2), NONE);
        C.due("all stays today", x.filed(0, 10, 1), 2);
        C.due("all stays tomorrow", x.filed(0, 11, 0), 10);
        x.at(10, 11);
        C.due("it is past", x.file(0, 10, 12, 15, 3), NONE);
        C.due("all stays", x.filed(0, 12, 0), 10);
        C.due("another one has none", x.file(1, 10, 10, 15, 3), 0);
        C.due("tomorrow's is no matter", x.file(0, 11, 12, 5, 3), 2);
        Subject y = Subject.withAthletes(5);
        y.file(0, 11, 11, 5, 1);
        y.at(10, 12);
        C.due("one for a day behind is no matter", y.file(0, 10, 11, 13, 1), 1);
    }

    // ---- "Each of these DAYS for which there was something FILED that was otherwise is a CHANGE"

    private static void changes() {
        C.part("something FILED that was otherwise is a CHANGE");
        Subject x = Subject.withAthletes(5, 6);
        C.due("nothing was filed", x.file(0, 10, 14, 10, 1), 0);
        C.due("it was the same", x.file(0, 10, 14, 10, 1), 0);
        C.due("another place", x.file(0, 10, 10, 10, 2), 1);
        C.due("another hour", x.file(0, 11, 11, 11, 1), 1);
        C.due("both are other", x.file(0, 12, 12, 11, 2), 1);
        C.due("two of 10 to 14 are so", x.file(0, 10, 14, 10, 1), 3);
        C.due("9 and 15 were nothing", x.file(0, 9, 15, 12, 1), 5);
        C.due("of another athlete", x.file(1, 9, 15, 10, 1), 0);
        C.due("60 changes", x.file(0, 100, 159, 10, 1) + x.file(0, 100, 159, 22, 9), 60);
        C.due("an hour and a place that make the same sum", x.file(0, 100, 159, 21, 9), 60);
    }

    // ---- "a LATE one, if from now to the earlier one of both HOURS (that FILED for that DAY till
    // now, the new one) there are fewer than LEAD hours"

    /** How many late changes a change for a day makes at day 5, hour 12. */
    private static int late(int lead, int day, int oldHour, int newHour) {
        Subject x = Subject.withAthletes(5);
        x.set(3, lead);
        x.file(0, day, day, oldHour, 1);
        x.at(5, 12);
        C.due("a change", x.file(0, day, day, newHour, 2), 1);
        return x.of(0, 4);
    }

    private static void lateByOldHour() {
        C.part("LATE by the HOUR FILED till now");
        C.due("LEAD 24, 23 hours", late(24, 6, 11, 20), 1);
        C.due("LEAD 24, 24 hours", late(24, 6, 12, 20), 0);
        C.due("LEAD 24, 25 hours", late(24, 6, 13, 20), 0);
        C.due("LEAD 25, 24 hours", late(25, 6, 12, 20), 1);
        C.due("LEAD 23, 23 hours", late(23, 6, 11, 20), 0);
        C.due("its HOUR is the new one, 23", late(24, 6, 11, 11), 1);
        C.due("its HOUR is the new one, 24", late(24, 6, 12, 12), 0);
    }

    private static void lateByNewHour() {
        C.part("LATE by the new HOUR");
        C.due("LEAD 24, 23 hours", late(24, 6, 20, 11), 1);
        C.due("LEAD 24, 24 hours", late(24, 6, 20, 12), 0);
        C.due("LEAD 24, 25 hours", late(24, 6, 20, 13), 0);
        C.due("LEAD 25, 24 hours", late(25, 6, 20, 12), 1);
        C.due("LEAD 23, 23 hours", late(23, 6, 20, 11), 0);
    }

    private static void lateByLeadAtItsBounds() {
        C.part("fewer than LEAD hours, LEAD 0 to 48");
        C.due("LEAD 0, 1 hour", late(0, 5, 13, 20), 0);
        C.due("LEAD 1, 1 hour", late(1, 5, 13, 20), 0);
        C.due("LEAD 2, 1 hour", late(2, 5, 13, 20), 1);
        C.due("LEAD 2, 2 hours", late(2, 5, 14, 20), 0);
        C.due("LEAD 10, 10 hours", late(10, 5, 22, 22), 0);
        C.due("LEAD 11, 10 hours", late(11, 5, 22, 22), 1);
        C.due("LEAD 47, 47 hours", late(47, 7, 11, 20), 0);
        C.due("LEAD 48, 47 hours", late(48, 7, 11, 20), 1);
        C.due("LEAD 48, 48 hours", late(48, 7, 12, 20), 0);
        C.due("LEAD 48, 49 hours", late(48, 7, 13, 20), 0);
        C.due("LEAD 48, 3 days", late(48, 8, 5, 20), 0);
    }

    private static void lateDaysOfOneFiling() {
        C.part("Each of these DAYS .. a LATE one");
        Subject x = Subject.withAthletes(5);
        x.set(3, 48);
        x.set(4, 9);
        x.file(0, 5, 9, 13, 1);
        x.at(5, 12);
        C.due("five changes", x.file(0, 5, 9, 20, 1), 5);
        C.due("of 1, 25, 49, 73 and 97 hours", x.of(0, 4), 2);
        x.file(0, 10, 10, 20, 1);
        C.due("what was nothing is not late", x.of(0, 4), 2);
        x.at(9, 12);
        C.due("what was the same is not late", x.file(0, 9, 10, 20, 1), 0);
        C.due("still", x.of(0, 4), 2);
        C.due("a filing that is refused", x.file(0, 9, 10, 12, 1), NONE);
        C.due("still", x.of(0, 4), 2);
        C.due("one was the same", x.file(0, 9, 9, 21, 1) + x.file(0, 9, 10, 21, 1), 2);
        C.due("two more", x.of(0, 4), 4);
    }

    // ---- "LATE CHANGES of an ATHLETE are counted in each QUARTER (of the DAY on which they are
    // made) anew"

    private static void lateChangesAnew() {
        C.part("counted in each QUARTER (of the DAY on which they are made) anew");
        Subject x = Subject.withAthletes(5, 6);
        x.file(0, 0, 59, 13, 1);
        x.file(1, 0, 59, 13, 1);
        x.at(29, 22);
        x.file(0, 30, 30, 14, 1);
        C.due("made on 29 for 30", x.of(0, 4), 1);
        C.due("not the other's", x.of(1, 4), 0);
        x.at(29, 23);
        C.due("the last hour of the quarter", x.of(0, 4), 1);
        x.file(1, 30, 30, 14, 1);
        x.at(30, 0);
        C.due("anew", x.of(0, 4), 0);
        C.due("anew of the other", x.of(1, 4), 0);
        x.file(0, 30, 30, 15, 1);
        C.due("made on 30", x.of(0, 4), 1);
        x.at(31, 0);
        C.due("the next day", x.of(0, 4), 1);
        x.at(59, 23);
        C.due("the last hour of the next quarter", x.of(0, 4), 1);
        x.at(121, 0);
        C.due("some quarters on", x.of(0, 4), 0);
    }

    // ---- "each above FREE in it is a FAILURE of kind 1"

    /** Changes the hour of tomorrow so many times; each is late. */
    private static void changeLate(Subject x, int times) {
        int tomorrow = x.count(1) + 1;
        for (int i = 0; i < times; i++) {
            int other = x.filed(0, tomorrow, 1) == 1 ? 2 : 1;
            C.due("a change", x.file(0, tomorrow, tomorrow, 10, other), 1);
        }
    }

    private static Subject readyToChange() {
        Subject x = Subject.withAthletes(5);
        x.file(0, 0, 59, 10, 1);
        x.file(0, 60, 119, 10, 1);
        x.at(5, 12);
        return x;
    }

    private static void failuresAboveFree() {
        C.part("each above FREE in it is a FAILURE of kind 1");
        for (int free = 0; free <= 9; free++) {
            Subject x = readyToChange();
            x.set(4, free);
            changeLate(x, free);
            C.due("FREE " + free + ", as many", x.of(0, 2), 0);
            changeLate(x, 1);
            C.due("FREE " + free + ", one above", x.of(0, 2), 1);
            changeLate(x, 1);
            C.due("FREE " + free + ", two above", x.of(0, 2), 2);
            C.due("of kind 1", x.failure(0, 0, 1) + x.failure(0, 1, 1), 2);
            C.due("on the day on which they are made", x.failure(0, 1, 0), 5);
            x.at(30, 12);
            changeLate(x, free);
            C.due("FREE " + free + " anew, as many", x.of(0, 2), 2);
            changeLate(x, 1);
            C.due("FREE " + free + " anew, one above", x.of(0, 2), 3);
            C.due("its day", x.failure(0, 2, 0), 30);
        }
        Subject x = readyToChange();
        changeLate(x, 2);
        x.set(4, 9);
        changeLate(x, 2);
        C.due("FREE as it is then", x.of(0, 2), 0);
        x.set(4, 4);
        C.due("changes that were free stay so", x.of(0, 2), 0);
        changeLate(x, 1);
        C.due("a 5th above FREE 4", x.of(0, 2), 1);
        x.set(4, 9);
        C.due("a failure stays one", x.of(0, 2), 1);
    }

    private static void failuresAboveFreeInOneFiling() {
        C.part("each above FREE in it, in one filing");
        for (int free = 0; free <= 3; free++) {
            Subject x = Subject.withAthletes(5);
            x.file(0, 5, 7, 13, 1);
            x.set(3, 48);
            x.set(4, free);
            x.at(5, 18);
            x.file(0, 6, 7, 14, 1);
            C.due("two late ones", x.of(0, 4), 2);
            C.due("FREE " + free, x.of(0, 2), free >= 2 ? 0 : 2 - free);
        }
    }

    // ---- "TIME goes on, never back."

    private static void neverBack() {
        C.part("TIME goes on, never back");
        Subject x = Subject.withAthletes(5);
        x.at(31, 5);
        C.due("failures", x.of(0, 2), 1);
        C.due("the hour ahead", x.at(31, 4), NONE);
        C.due("now", x.at(31, 5), NONE);
        C.due("the day ahead, a later hour", x.at(30, 23), NONE);
        C.due("the quarter ahead", x.at(29, 23), NONE);
        C.due("the first", x.at(0, 0), NONE);
        C.due("DAY stays", x.count(1), 31);
        C.due("HOUR stays", x.count(2), 5);
        C.due("failures stay", x.of(0, 2), 1);
        C.due("the hour behind", x.at(31, 6), 0);
        C.due("the day behind, an earlier hour", x.at(32, 0), 0);
    }

    // ---- "As it comes to the first DAY of a QUARTER (each one that it passes, one after the
    // other), each ATHLETE who has not FILED for some DAY of that QUARTER has a FAILURE of kind 0
    // on it (one who came in the very QUARTER ahead, too)."

    private static void firstDayOfQuarter() {
        C.part("As it comes to the first DAY of a QUARTER");
        Subject x = Subject.withAthletes(5);
        C.due("not to day 0", x.of(0, 2), 0);
        C.due("28", x.at(28, 0), 0);
        C.due("29", x.at(29, 23), 0);
        C.due("30", x.at(30, 0), 1);
        C.due("its day", x.failure(0, 0, 0), 30);
        C.due("its kind", x.failure(0, 0, 1), 0);
        C.due("30 once", x.at(30, 1), 0);
        C.due("31", x.at(31, 0), 0);
        C.due("59", x.at(59, 23), 0);
        C.due("61, past 60", x.at(61, 7), 1);
        C.due("on the first day, not on that of now", x.failure(0, 1, 0), 60);
        C.due("as many", x.of(0, 2), 2);
    }

    private static void quartersPassed() {
        C.part("each one that it passes, one after the other");
        C.due("0 to 29", Subject.withAthletes(5).at(29, 23), 0);
        C.due("0 to 30", Subject.withAthletes(5).at(30, 0), 1);
        C.due("0 to 59", Subject.withAthletes(5).at(59, 23), 1);
        C.due("0 to 60", Subject.withAthletes(5).at(60, 0), 2);
        C.due("0 to 89", Subject.withAthletes(5, 6).at(89, 0), 4);
        C.due("0 to 90", Subject.withAthletes(5, 6).at(90, 0), 6);
        C.due("0 to 989", Subject.withAthletes(5).at(989, 23), 32);
        Subject x = Subject.withAthletes(5, 6, 7, 8, 9, 1);
        C.due("0 to 999, six", x.at(999, 23), 6 * 33);
        for (int k = 0; k < 33; k++) {
            C.due("one after the other", x.failure(5, k, 0), 30 * (k + 1));
        }
        C.due("no more", x.failure(5, 33, 0), NONE);
    }

    private static int failuresOfQuarter1(int a, int b, int hole) {
        Subject x = Subject.withAthletes(5);
        if (hole > a) {
            x.file(0, a, hole - 1, 10, 1);
        }
        if (hole < b) {
            x.file(0, hole + 1, b, 10, 1);
        }
        x.at(29, 0);
        return x.at(30, 0);
    }

    private static void quartersFiledWhole() {
        C.part("who has not FILED for some DAY of that QUARTER");
        C.due("30 to 59", failuresOfQuarter1(30, 59, 29), 0);
        C.due("29 to 58", failuresOfQuarter1(29, 59, 59), 1);
        C.due("31 to 60", failuresOfQuarter1(30, 60, 30), 1);
        C.due("all but 31", failuresOfQuarter1(30, 59, 31), 1);
        C.due("all but 45", failuresOfQuarter1(30, 59, 45), 1);
        C.due("all but 58", failuresOfQuarter1(30, 59, 58), 1);
        C.due("all but 60", failuresOfQuarter1(30, 75, 60), 0);
        C.due("all but 29", failuresOfQuarter1(20, 59, 29), 0);
        Subject x = Subject.withAthletes(5, 6, 7);
        x.file(0, 30, 58, 10, 1);
        x.file(1, 30, 59, 5, 0);
        x.file(2, 31, 60, 10, 1);
        C.due("two of three", x.at(30, 0), 2);
        C.due("first", x.of(0, 2), 1);
        C.due("second", x.of(1, 2), 0);
        C.due("third", x.of(2, 2), 1);
        x.file(0, 59, 59, 10, 1);
        C.due("filed whole when it is late", x.of(0, 2), 1);
    }

    private static void lastQuarterOfTime() {
        C.part("of that QUARTER, the last: 990 to 1019");
        for (int last = 1018; last <= 1020; last++) {
            Subject x = Subject.withAthletes(5);
            x.at(980, 0);
            x.file(0, 990, last, 10, 1);
            C.due("filed to " + last, x.at(999, 0), last < 1019 ? 1 : 0);
        }
    }

    private static void cameInQuarterAhead() {
        C.part("one who came in the very QUARTER ahead, too");
        Subject x = new Subject();
        x.at(0, 1);
        x.athlete(5);
        x.at(29, 23);
        x.athlete(6);
        C.due("both", x.at(30, 0), 2);
        C.due("the one of 29, 23", x.failure(1, 0, 0), 30);
        x.athlete(7);
        C.due("one who came on 30", x.of(2, 2), 0);
        C.due("has none for 30", x.at(59, 23), 0);
        C.due("but on 60", x.at(60, 0), 3);
        C.due("its day", x.failure(2, 0, 0), 60);
    }

    // ---- "A TEST of an ATHLETE at a PLACE, now: he is found, or not. If that PLACE and HOUR are
    // those FILED for DAY: FOUND (0) or MISSED (1), a FAILURE of kind 2; else found: FOUND, not:
    // VOID (2)."

    private static void testAtPlaceAndHour() {
        C.part("If that PLACE and HOUR are those FILED for DAY");
        for (int hour = 9; hour <= 11; hour++) {
            for (int place = 2; place <= 4; place++) {
                Subject x = Subject.withAthletes(5);
                x.file(0, 5, 5, 10, 3);
                x.at(5, hour);
                boolean so = hour == 10 && place == 3;
                String where = "hour " + hour + ", place " + place;
                C.due(where + ", found", x.test(0, place, true), 0);
                C.due(where + ", found: no failure", x.of(0, 2), 0);
                C.due(where + ", not", x.test(0, place, false), so ? 1 : 2);
                C.due(where + ", a failure", x.of(0, 2), so ? 1 : 0);
                C.due(where + ", of kind", x.failure(0, 0, 1), so ? 2 : NONE);
                C.due(where + ", on", x.failure(0, 0, 0), so ? 5 : NONE);
                C.due(where + ", missed", x.of(0, 6), so ? 1 : 0);
            }
        }
        for (int place : new int[] {0, 9}) {
            for (int hour : new int[] {5, 22}) {
                Subject x = Subject.withAthletes(5);
                x.file(0, 0, 0, hour, place);
                x.at(0, hour);
                C.due("hour " + hour + ", place " + place, x.test(0, place, false), 1);
            }
        }
    }

    private static void testOnDay() {
        C.part("those FILED for DAY");
        Subject x = Subject.withAthletes(5, 6);
        x.file(0, 5, 6, 10, 3);
        int[] due = {2, 1, 1, 2};
        for (int day = 4; day <= 7; day++) {
            x.at(day, 10);
            C.due("day " + day + ", found", x.test(0, 3, true), 0);
            C.due("day " + day, x.test(0, 3, false), due[day - 4]);
            C.due("day " + day + ", another athlete", x.test(1, 3, false), 2);
        }
        Subject y = Subject.withAthletes(5);
        C.due("nothing FILED, hour 0, place 0", y.test(0, 0, false), 2);
        C.due("nothing FILED, found", y.test(0, 0, true), 0);
        Subject z = Subject.withAthletes(5);
        z.file(0, 999, 999, 22, 9);
        z.at(999, 22);
        C.due("the last day", z.test(0, 9, false), 1);
        z.at(999, 23);
        C.due("the last hour", z.test(0, 9, false), 2);
    }
}
