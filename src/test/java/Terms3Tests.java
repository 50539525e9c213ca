/** Terms 3, sentence by sentence: at each bound that it names, and one step to each side. */
public final class Terms3Tests {
    private static final int NONE = Subject.NONE;
    private static final int MOST = Subject.MOST;
    private static final int WEIGHT = 8;

    private static final Check C = new Check();

    public static void main(String[] args) {
        weightByRisk();
        weightSinceHeCame();
        weightSinceHisLastTest();
        weightByPoints();
        heaviest();
        firstAboveR();
        lotOfExtremeR();
        seedsThatWrap();
        notDrawnYet();
        lotByWeights();
        mostOfRound();
        leastOfSeveral();
        C.finish();
    }

    // ---- "WEIGHT of an ATHLETE: RISK times (1 and DAYS since his last TEST, of whatever outcome;
    // without one since he came) times (1 and POINTS)."

    private static void weightByRisk() {
        C.part("WEIGHT: RISK times");
        for (int risk = 1; risk <= 9; risk++) {
            Subject x = Subject.withAthletes(risk);
            C.due("no days, no points", x.of(0, WEIGHT), risk);
            x.at(1, 0);
            C.due("a day, no points", x.of(0, WEIGHT), 2 * risk);
        }
    }

    private static void weightSinceHeCame() {
        C.part("without one since he came");
        Subject x = Subject.withAthletes(4);
        x.at(0, 23);
        C.due("the same day", x.of(0, WEIGHT), 4);
        x.at(1, 0);
        C.due("an hour on, the next day", x.of(0, WEIGHT), 8);
        x.at(3, 23);
        x.athlete(4);
        C.due("came on 0", x.of(0, WEIGHT), 16);
        C.due("came on 3", x.of(1, WEIGHT), 4);
        x.at(4, 0);
        C.due("a day behind", x.of(1, WEIGHT), 8);
        C.due("no test", x.of(1, 7), NONE);
    }

    private static void weightSinceHisLastTest() {
        C.part("DAYS since his last TEST, of whatever outcome");
        Subject x = Subject.filedThroughout();
        C.due("a void test on day 0", x.test(0, 1, false), 2);
        x.at(2, 10);
        C.due("since it", x.of(0, WEIGHT), 15);
        C.due("found", x.test(0, 1, true), 0);
        C.due("today", x.of(0, WEIGHT), 5);
        x.at(3, 0);
        C.due("a day behind", x.of(0, WEIGHT), 10);
        C.due("found elsewhere", x.test(0, 2, true), 0);
        C.due("today", x.of(0, WEIGHT), 5);
        x.at(5, 10);
        C.due("void", x.test(0, 2, false), 2);
        C.due("today", x.of(0, WEIGHT), 5);
        x.at(7, 10);
        C.due("two days behind", x.of(0, WEIGHT), 15);
        C.due("missed", x.test(0, 1, false), 1);
        C.due("today, with a point", x.of(0, WEIGHT), 10);
        x.at(8, 0);
        C.due("no test, of no such place", x.test(0, 10, true), NONE);
        C.due("since the last that was one", x.of(0, WEIGHT), 20);
    }

    private static void weightByPoints() {
        C.part("times (1 and POINTS)");
        Subject x = Subject.missedOn(7);
        C.due("one", x.of(0, WEIGHT), 5 * 2);
        x.missOn(9);
        C.due("one, and one that does not count", x.of(0, WEIGHT), 5 * 2);
        x.missOn(10);
        C.due("two", x.of(0, WEIGHT), 5 * 3);
        x.missOn(13);
        C.due("none behind a violation", x.of(0, WEIGHT), 5);
        x.missOn(16);
        x.appeal(0, 4);
        C.due("a struck one", x.of(0, WEIGHT), 5);
        x.missOn(20);
        x.at(139, 23);
        C.due("the last day of WINDOW", x.of(0, WEIGHT), 5 * 120 * 2);
        x.at(140, 0);
        C.due("the day behind", x.of(0, WEIGHT), 5 * 121);
    }

    private static void heaviest() {
        C.part("WEIGHT, the most there can be");
        Subject x = new Subject();
        for (int i = 0; i < 6; i++) {
            x.athlete(9);
            x.file(i, 30, 89, 10, 1);
            x.file(i, 90, 149, 10, 1);
        }
        x.set(0, 400);
        x.set(1, 5);
        x.at(999, 23);
        C.due("failures of 29 quarters", x.of(5, 2), 29);
        C.due("points", x.of(5, 1), 4);
        C.due("weight", x.of(5, WEIGHT), 9 * 1000 * 5);
        C.due("of six alike", x.chance(5, true), 6);
        // 1043980748 modulo 270000 is 160748, and 4 times 45000 is the first above it.
        C.due("lot", x.lot(MOST, 1), 3);
    }

    // ---- "A LOT of n ATHLETES by a seed x: n times, of those not drawn yet: x becomes (1103515245
    // x and 12345) modulo 2147483648, r is x modulo the sum of their WEIGHTS; the first one, by
    // numbers, with whom the WEIGHTS up to him are above r."

    private static void firstAboveR() {
        C.part("with whom the WEIGHTS up to him are above r");
        // By seed 0 x is 12345, so that r is 5 of 10.
        C.due("4 is not above 5", Subject.withAthletes(4, 6).lot(0, 1), 1);
        C.due("5 is not above 5", Subject.withAthletes(5, 5).lot(0, 1), 1);
        C.due("6 is above 5", Subject.withAthletes(6, 4).lot(0, 1), 0);
        C.due("3 and 2 is not above 5", Subject.withAthletes(3, 2, 5).lot(0, 1), 2);
        C.due("3 and 3 is above 5", Subject.withAthletes(3, 3, 4).lot(0, 1), 1);
        C.due("the first one of those", Subject.withAthletes(6, 1, 3).lot(0, 1), 0);
    }

    private static void lotOfExtremeR() {
        C.part("r is x modulo the sum of their WEIGHTS");
        // 12345 modulo 2 is 1, modulo 3 it is 0, modulo 15 it is 0.
        C.due("r is the most there can be", Subject.withAthletes(1, 1).lot(0, 1), 1);
        C.due("r is 0", Subject.withAthletes(1, 2).lot(0, 1), 0);
        C.due("r is 0", Subject.withAthletes(1, 9, 5).lot(0, 1), 0);
        C.due("the only one", Subject.withAthletes(1).lot(0, 1), 0);
        C.due("the only one", Subject.withAthletes(9).lot(MOST, 1), 0);
    }

    private static void seedsThatWrap() {
        C.part("(1103515245 x and 12345) modulo 2147483648");
        // By the highest seed x is 1043980748: r is 8 of 10.
        C.due("the highest seed, 9", Subject.withAthletes(9, 1).lot(MOST, 1), 0);
        C.due("the highest seed, 8", Subject.withAthletes(8, 2).lot(MOST, 1), 1);
        // By the one below it x is 2087949151: r is 1 of 10; by 1 it is 1103527590: r is 0.
        C.due("the one below, 2", Subject.withAthletes(2, 8).lot(MOST - 1, 1), 0);
        C.due("the one below, 1", Subject.withAthletes(1, 9).lot(MOST - 1, 1), 1);
        C.due("1, all", Subject.withAthletes(1, 2, 3, 4, 5, 6).lot(1, 6), 503124);
        // By 2 it is 2207042835, which is 59559187 above 2147483648: r is 7.
        C.due("2, 8", Subject.withAthletes(8, 2).lot(2, 1), 0);
        C.due("2, 7", Subject.withAthletes(7, 3).lot(2, 1), 1);
    }

    private static void notDrawnYet() {
        C.part("n times, of those not drawn yet");
        // By seed 0: 12345, 1406932606, 654583775, 1449466924, 229283573, 1109335178.
        int[] due = {5, 51, 512, 5123, 51234, 512340};
        for (int n = 1; n <= 6; n++) {
            C.due("seed 0, " + n, Subject.withAthletes(1, 2, 3, 4, 5, 6).lot(0, n), due[n - 1]);
        }
        Subject x = Subject.withAthletes(1, 1, 1, 1, 1, 1);
        int[] all = {315240, 12435, 132450, 413205, 534120, 230145};
        for (int seed = 0; seed < 6; seed++) {
            C.due("six alike, seed " + seed, x.lot(seed, 6), all[seed]);
        }
        C.due("0 drawn first is no digit", x.lot(1, 1), 0);
        C.due("0 drawn first is no digit", x.lot(1, 2), 1);
        C.due("each lot begins anew", x.lot(0, 6), 315240);
    }

    private static void lotByWeights() {
        C.part("LOT by WEIGHTS, not by RISKS");
        Subject x = Subject.withAthletes(5, 5);
        C.due("5 of 10", x.lot(0, 1), 1);
        x.at(2, 0);
        x.test(1, 0, true);
        // Now 15 and 5: r is 12345 modulo 20, which is 5.
        C.due("15 of 20", x.lot(0, 1), 0);
        Subject y = Subject.withAthletes(5);
        y.file(0, 0, 0, 10, 1);
        y.at(0, 10);
        y.test(0, 1, false);
        y.athlete(5);
        // 10 and 5: by seed 2 x is 59559187, and r is 7 of 15, as it is of 10.
        C.due("a point weighs", y.chance(0, false) * 10 + y.chance(0, true), 23);
        C.due("10 of 15", y.lot(2, 1), 0);
        C.due("5 of 10", Subject.withAthletes(5, 5).lot(2, 1), 1);
    }

    // ---- "ROUND of a DAY: in each HOUR the PLACE at which most ATHLETES have FILED (1 or more; of
    // several the least)."

    private static void mostOfRound() {
        C.part("the PLACE at which most ATHLETES have FILED (1 or more)");
        Subject x = Subject.withAthletes(1, 2, 3, 4, 5, 6);
        C.due("none", x.round(3, 10, 0), NONE);
        x.file(0, 3, 3, 10, 9);
        C.due("one", x.round(3, 10, 0), 9);
        C.due("who", x.round(3, 10, 1), 1);
        x.file(1, 3, 3, 11, 0);
        C.due("another hour is no matter", x.round(3, 10, 0), 9);
        x.file(2, 2, 2, 10, 0);
        x.file(2, 4, 4, 10, 0);
        C.due("another day is no matter", x.round(3, 10, 0), 9);
        x.file(2, 3, 3, 10, 0);
        x.file(3, 3, 3, 10, 9);
        C.due("two before one", x.round(3, 10, 0), 9);
        x.file(4, 3, 3, 10, 0);
        x.file(5, 3, 3, 10, 0);
        C.due("three before two", x.round(3, 10, 0), 0);
        C.due("who", x.round(3, 10, 1), 4 + 16 + 32);
        x.file(0, 5, 5, 9, 9);
        x.file(1, 5, 5, 9, 9);
        x.file(2, 5, 5, 10, 0);
        x.file(3, 5, 5, 10, 9);
        x.file(4, 5, 5, 11, 0);
        x.file(5, 5, 5, 11, 0);
        C.due("the hours beside it are no matter", x.round(5, 10, 0), 0);
        C.due("the hour ahead", x.round(5, 9, 0), 9);
        C.due("the hour behind", x.round(5, 11, 0), 0);
        C.due("who", x.round(5, 9, 1) * 100 + x.round(5, 11, 1), 348);
    }

    private static void leastOfSeveral() {
        C.part("of several the least");
        Subject x = Subject.withAthletes(1, 2, 3, 4, 5, 6);
        x.file(0, 3, 3, 10, 9);
        x.file(1, 3, 3, 10, 8);
        C.due("one each of 9 and 8", x.round(3, 10, 0), 8);
        x.file(2, 3, 3, 10, 0);
        C.due("one each of 9, 8 and 0", x.round(3, 10, 0), 0);
        C.due("who", x.round(3, 10, 1), 4);
        x.file(3, 3, 3, 10, 9);
        x.file(4, 3, 3, 10, 8);
        C.due("two each of 9 and 8", x.round(3, 10, 0), 8);
        C.due("who", x.round(3, 10, 1), 2 + 16);
        x.file(5, 3, 3, 10, 0);
        C.due("two each of all", x.round(3, 10, 0), 0);
        C.due("who", x.round(3, 10, 1), 4 + 32);
    }
}
