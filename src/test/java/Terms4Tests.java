/** Terms 4, the texts, sentence by sentence: at each bound, and one step to each side. */
public final class Terms4Tests {
    private static final int NONE = Subject.NONE;

    private static final int CAN_NOT_STAND = 1;
    private static final int CAN_NOT_BE = 2;
    private static final int CAN_NOT_BE_DONE = 3;

    /** Each can be done on the object that ready() makes. */
    private static final String[] FORMS = {"athlete 5 ;", "set 0 7 ;", "at 0 11 ;",
        "file 0 1 2 12 3 ;", "test 0 1 found ;", "test 0 1 missed ;", "appeal 0 0 ;"};

    private static final Check C = new Check();

    public static void main(String[] args) {
        noStatements();
        fullTexts();
        eachStatement();
        letters();
        lettersOfEachWord();
        digits();
        blanks();
        signs();
        tokensWithoutBlanks();
        oneByOne();
        cutOff();
        placesOfTokens();
        whatCanNotStand();
        numbersOfFiveDigits();
        boundsOfAthlete();
        boundsOfSet();
        boundsOfAt();
        boundsOfFile();
        spansOfFile();
        boundsOfTest();
        boundsOfAppeal();
        thoseThereAreByThen();
        firstAlongTheText();
        leastOfOnePlace();
        notReadWhole();
        seventhAthlete();
        timeNotBehind();
        whatCanNotBeFiled();
        appealsToNothing();
        whatIsNoFault();
        C.finish();
    }

    /** One athlete (risk 5) who has one failure, at day 0, hour 10. */
    private static Subject ready() {
        Subject x = Subject.withAthletes(5);
        x.file(0, 0, 29, 10, 1);
        x.at(0, 10);
        x.test(0, 1, false);
        return x;
    }

    private static void fault(String text, int kind, int place) {
        Subject x = ready();
        C.due("tell '" + text + "'", x.tell(text), NONE);
        C.due("fault of '" + text + "'", x.fault(), kind + 8 * place);
        C.due("athletes behind '" + text + "'", x.count(0), 1);
        C.due("hour behind '" + text + "'", x.count(2), 10);
    }

    private static void told(String text, int statements) {
        Subject x = ready();
        C.due("tell '" + text + "'", x.tell(text), statements);
        C.due("fault of '" + text + "'", x.fault(), 0);
    }

    // ---- "TEXTS, at most 400 bytes: { STATEMENT ; }."

    private static void noStatements() {
        C.part("{ STATEMENT ; }");
        told("", 0);
        told(" ", 0);
        told("\n", 0);
        told("at 0 11;", 1);
        told("at 0 11;at 0 12;", 2);
        fault(";", CAN_NOT_STAND, 0);
        fault("at 0 11;;", CAN_NOT_STAND, 8);
        fault("at 0 11", CAN_NOT_STAND, 7);
        fault("at 0 11;at 0 12", CAN_NOT_STAND, 15);
    }

    private static String setsOf(int bytes) {
        StringBuilder b = new StringBuilder();
        while (b.length() + 8 <= bytes) {
            b.append("set 0 ").append(b.length() / 8 % 9 + 1).append(';');
        }
        while (b.length() < bytes) {
            b.append(' ');
        }
        return b.toString();
    }

    private static void fullTexts() {
        C.part("TEXTS, at most 400 bytes");
        told(setsOf(399), 49);
        told(setsOf(400), 50);
        Subject x = ready();
        C.due("50 statements", x.tell(setsOf(400)), 50);
        C.due("the last one is done", x.count(10), 5);
        fault(setsOf(400).substring(0, 399), CAN_NOT_STAND, 399);
        fault(setsOf(400).substring(0, 399) + "x", CAN_NOT_STAND, 399);
        fault(setsOf(392) + "set 0 77", CAN_NOT_STAND, 400);
        fault(setsOf(392) + "set 0   ", CAN_NOT_STAND, 400);
        fault(setsOf(392) + "       !", CAN_NOT_STAND, 399);
        Subject y = ready();
        // The feeds beyond 400 bytes are refused, so that the end there can't be, too.
        y.feed(setsOf(408));
        C.due("no more than 400", y.count(3), 400);
        C.due("told as far as it came", y.tell(), 50);
    }

    // ---- "STATEMENT: athlete NUMBER (RISK); set NUMBER NUMBER; at NUMBER NUMBER (TIME goes on to
    // DAY, HOUR); file NUMBER NUMBER NUMBER NUMBER NUMBER (ATHLETE, a, b, HOUR, PLACE); test NUMBER
    // NUMBER found, or missed (ATHLETE, PLACE); appeal NUMBER NUMBER (ATHLETE, FAILURE)."

    private static void eachStatement() {
        C.part("STATEMENT");
        for (String form : FORMS) {
            told(form, 1);
        }
        Subject x = ready();
        x.tell("athlete 7;");
        C.due("athlete: RISK", x.of(1, 0), 7);
        x.tell("set 4 8;");
        C.due("set: number, then what it is", x.count(14), 8);
        x.tell("file 1 3 5 12 6;");
        C.due("file: ATHLETE, HOUR", x.filed(1, 3, 0), 12);
        C.due("file: PLACE", x.filed(1, 5, 1), 6);
        C.due("file: a", x.filed(1, 2, 0), NONE);
        C.due("file: b", x.filed(1, 6, 0), NONE);
        x.tell("at 3 12;");
        C.due("at: DAY", x.count(1), 3);
        C.due("at: HOUR", x.count(2), 12);
        x.tell("test 1 6 found;");
        C.due("test: found", x.of(1, 5) * 10 + x.of(1, 6), 10);
        x.tell("test 1 5 missed;");
        C.due("test: elsewhere", x.of(1, 5) * 10 + x.of(1, 6), 20);
        x.tell("test 1 6 missed;");
        C.due("test: missed", x.of(1, 5) * 10 + x.of(1, 6), 31);
        C.due("not the other one", x.of(0, 5), 1);
        x.tell("test 1 6 missed;appeal 1 1;");
        C.due("appeal: FAILURE", x.failure(1, 1, 2), 1);
        C.due("appeal: not another one", x.failure(1, 0, 2) + x.failure(0, 0, 2), 0);
    }

    // ---- "TOKENS: words (letters a to z, as many as stand there), NUMBERS (1 to 4 digits, as many
    // as stand there), ; ; blanks (32, 10) between or not."

    private static void letters() {
        C.part("words (letters a to z, as many as stand there)");
        fault("ata 0 11;", CAN_NOT_STAND, 0);
        fault("atb 0 11;", CAN_NOT_STAND, 0);
        fault("aty 0 11;", CAN_NOT_STAND, 0);
        fault("atz 0 11;", CAN_NOT_STAND, 0);
        fault("at` 0 11;", CAN_NOT_STAND, 2);
        fault("at{ 0 11;", CAN_NOT_STAND, 2);
        fault("atA 0 11;", CAN_NOT_STAND, 2);
        fault("atZ 0 11;", CAN_NOT_STAND, 2);
        fault("at\u00e1 0 11;", CAN_NOT_STAND, 2);
        fault("At 0 11;", CAN_NOT_STAND, 0);
        fault("a 0 11;", CAN_NOT_STAND, 0);
        fault("a t 0 11;", CAN_NOT_STAND, 0);
        fault("atat 0 11;", CAN_NOT_STAND, 0);
        fault("athlet 5;", CAN_NOT_STAND, 0);
        fault("athletes 5;", CAN_NOT_STAND, 0);
        fault("se 0 7;", CAN_NOT_STAND, 0);
        fault("sets 0 7;", CAN_NOT_STAND, 0);
        fault("fil 0 1 2 12 3;", CAN_NOT_STAND, 0);
        fault("files 0 1 2 12 3;", CAN_NOT_STAND, 0);
        fault("tes 0 1 found;", CAN_NOT_STAND, 0);
        fault("tests 0 1 found;", CAN_NOT_STAND, 0);
        fault("appea 0 0;", CAN_NOT_STAND, 0);
        fault("appeals 0 0;", CAN_NOT_STAND, 0);
        fault("test 0 1 foun;", CAN_NOT_STAND, 9);
        fault("test 0 1 founda;", CAN_NOT_STAND, 9);
        fault("test 0 1 misse;", CAN_NOT_STAND, 9);
        fault("test 0 1 missedz;", CAN_NOT_STAND, 9);
        fault("test 0 1 missed{;", CAN_NOT_STAND, 15);
    }

    private static void lettersOfEachWord() {
        C.part("words, each letter of them");
        for (String form : FORMS) {
            int place = 0;
            for (String token : form.split(" ")) {
                for (int i = 0; i < token.length() && token.charAt(0) >= 'a'; i++) {
                    char other = token.charAt(i) == 'a' ? 'b' : (char) (token.charAt(i) - 1);
                    fault(form.substring(0, place + i) + other + form.substring(place + i + 1),
                        CAN_NOT_STAND, place);
                    fault(form.substring(0, place + i) + form.substring(place + i + 1),
                        CAN_NOT_STAND, place);
                }
                place += token.length() + 1;
            }
        }
    }

    private static void digits() {
        C.part("NUMBERS (1 to 4 digits, as many as stand there)");
        told("athlete 9;", 1);
        told("athlete 09;", 1);
        told("athlete 009;", 1);
        told("athlete 0009;", 1);
        fault("athlete 00009;", CAN_NOT_STAND, 8);
        fault("athlete 000009;", CAN_NOT_STAND, 8);
        fault("athlete ;", CAN_NOT_STAND, 8);
        told("file 0 1000 1059 10 1;", 1);
        fault("athlete 5/;", CAN_NOT_STAND, 9);
        fault("athlete 5:;", CAN_NOT_STAND, 9);
        fault("athlete /5;", CAN_NOT_STAND, 8);
        fault("athlete :5;", CAN_NOT_STAND, 8);
        fault("athlete -5;", CAN_NOT_STAND, 8);
        fault("athlete +5;", CAN_NOT_STAND, 8);
        fault("athlete 5.;", CAN_NOT_STAND, 9);
        fault("athlete 5a;", CAN_NOT_STAND, 9);
        fault("athlete 5 5;", CAN_NOT_STAND, 10);
        fault("at 011;", CAN_NOT_STAND, 6);
        Subject x = ready();
        x.tell("set 0 0123;at 0890 0012;");
        C.due("each digit is told", x.count(10), 123);
        C.due("each digit is told", x.count(1), 890);
        C.due("each digit is told", x.count(2), 12);
    }

    private static void blanks() {
        C.part("blanks (32, 10) between or not");
        told("at 0 11;", 1);
        told("at\n0\n11\n;", 1);
        told("  at \n 0 \n 11 \n ; \n ", 1);
        told("\n\nat0 11;at0 12;", 2);
        told("at 0 11;\nat 0 12\n;", 2);
        for (int sign : new int[] {0, 8, 9, 11, 12, 13, 31, 33, 128, 138, 160, 255}) {
            String blank = "" + (char) sign;
            fault(blank + "at 0 11;", CAN_NOT_STAND, 0);
            fault("at" + blank + "0 11;", CAN_NOT_STAND, 2);
            fault("at 0" + blank + "11;", CAN_NOT_STAND, 4);
            fault("at 0 11" + blank + ";", CAN_NOT_STAND, 7);
            fault("at 0 11;" + blank, CAN_NOT_STAND, 8);
        }
    }

    private static void signs() {
        C.part("TOKENS: words, NUMBERS, ;");
        for (int sign = 0; sign < 256; sign++) {
            boolean blank = sign == 32 || sign == 10;
            boolean digit = sign >= '0' && sign <= '9';
            String text = "at 0 1" + (char) sign;
            // Behind 1 a digit makes another number, of which 10 to 19 are all hours.
            if (sign == ';') {
                fault(text, CAN_NOT_BE_DONE, 0);
            } else {
                fault(text, CAN_NOT_STAND, blank || digit ? 7 : 6);
            }
        }
        fault("at 0 11:", CAN_NOT_STAND, 7);
        fault("at 0 11,", CAN_NOT_STAND, 7);
    }

    private static void tokensWithoutBlanks() {
        C.part("blanks between or not: none");
        told("athlete5;set0 7;at0 11;file0 1 2 12 3;test0 1found;test0 1missed;appeal0 0;", 7);
        fault("set07;", CAN_NOT_BE, 3);
        fault("set00;", CAN_NOT_STAND, 5);
        fault("testat0 1found;", CAN_NOT_STAND, 0);
        fault("test0 1found1;", CAN_NOT_STAND, 12);
    }

    // ---- "STATEMENTS are done one by one, as by calls."

    private static void oneByOne() {
        C.part("done one by one, as by calls");
        Subject x = ready();
        C.due("text", x.tell("athlete 3;file 1 0 29 12 2;set 4 0;file 1 0 0 13 2;at 0 13;"
            + "test 1 2 missed;appeal 1 0;at 31 0;"), 8);
        Subject y = ready();
        y.athlete(3);
        y.file(1, 0, 29, 12, 2);
        y.set(4, 0);
        y.file(1, 0, 0, 13, 2);
        y.at(0, 13);
        y.test(1, 2, false);
        y.appeal(1, 0);
        y.at(31, 0);
        C.due("state", x.state(0, 1, 29, 30), y.state(0, 1, 29, 30));
        C.due("a late change, a missed test, a hole", x.of(1, 2), 3);
    }

    // ---- "FAULTS, told as kind and 8 times the place (a TOKEN's first byte; the end's: the text's
    // length) together"

    private static void cutOff() {
        C.part("the end's: the text's length");
        for (String form : FORMS) {
            String[] tokens = form.split(" ");
            String text = "";
            for (int i = 0; i + 1 < tokens.length; i++) {
                text += i == 0 ? tokens[i] : " " + tokens[i];
                fault(text, CAN_NOT_STAND, text.length());
                fault(text + " ", CAN_NOT_STAND, text.length() + 1);
                fault(text + "\n \n", CAN_NOT_STAND, text.length() + 3);
                fault("at 0 12;" + text, CAN_NOT_STAND, text.length() + 8);
            }
        }
    }

    private static void placesOfTokens() {
        C.part("a TOKEN's first byte");
        fault("x", CAN_NOT_STAND, 0);
        fault(" x", CAN_NOT_STAND, 1);
        fault("\n\n  xyz 5;", CAN_NOT_STAND, 4);
        fault("athlete     9999;", CAN_NOT_BE, 12);
        fault("   at 0 9;", CAN_NOT_BE_DONE, 3);
        fault("at 0 11;   at 0 10  ;", CAN_NOT_BE_DONE, 11);
        fault("at 0 11; test 0 1  founds ;", CAN_NOT_STAND, 19);
    }

    // ---- "1 what can't stand there (a NUMBER of more than 4 digits, too)."

    private static void whatCanNotStand() {
        C.part("1 what can't stand there");
        String[] inWord = {";", "7", "12345", "x", "found", "missed", "!"};
        String[] inNumber = {";", "x", "at", "found", "12345", "!"};
        String[] inEnd = {"7", "12345", "x", "at", "found", "!", ":"};
        String[] inOutcome = {";", "7", "12345", "x", "at", "!"};
        for (String form : FORMS) {
            String[] tokens = form.split(" ");
            int place = 0;
            for (int i = 0; i < tokens.length; i++) {
                String[] wrong = i == 0 ? inWord : tokens[i].equals(";") ? inEnd
                    : tokens[i].charAt(0) > '9' ? inOutcome : inNumber;
                for (String one : wrong) {
                    String text = form.substring(0, place) + one
                        + form.substring(place + tokens[i].length());
                    fault(text, CAN_NOT_STAND, place);
                    // Another fault behind it is not the first.
                    fault(text + " x", CAN_NOT_STAND, place);
                    fault(text + " at 0 0;", CAN_NOT_STAND, place);
                }
                place += tokens[i].length() + 1;
            }
        }
    }

    private static void numbersOfFiveDigits() {
        C.part("a NUMBER of more than 4 digits, too");
        fault("athlete 00005;", CAN_NOT_STAND, 8);
        fault("set 00000 7;", CAN_NOT_STAND, 4);
        fault("set 0 00007;", CAN_NOT_STAND, 6);
        fault("at 00000 11;", CAN_NOT_STAND, 3);
        fault("at 0 00011;", CAN_NOT_STAND, 5);
        fault("file 00000 1 2 12 3;", CAN_NOT_STAND, 5);
        fault("file 0 00001 2 12 3;", CAN_NOT_STAND, 7);
        fault("file 0 1 00002 12 3;", CAN_NOT_STAND, 9);
        fault("file 0 1 2 00012 3;", CAN_NOT_STAND, 11);
        fault("file 0 1 2 12 00003;", CAN_NOT_STAND, 14);
        fault("test 00000 1 found;", CAN_NOT_STAND, 5);
        fault("test 0 00001 found;", CAN_NOT_STAND, 7);
        fault("appeal 00000 0;", CAN_NOT_STAND, 7);
        fault("appeal 0 00000;", CAN_NOT_STAND, 9);
        fault("athlete 12345;", CAN_NOT_STAND, 8);
        fault("athlete 4294967297;", CAN_NOT_STAND, 8);
        fault("athlete 00000000000000000000000000000000000000000000000001;", CAN_NOT_STAND, 8);
        fault("athlete 9999;", CAN_NOT_BE, 8);
    }

    // ---- "2 a NUMBER that can't be by itself (its bounds; an ATHLETE, FAILURE that there is not;
    // b less than a, or 60 or more behind it)."

    /** That the number between before and after may be from least to most. */
    private static void bounds(String before, String after, int least, int most) {
        for (int v : new int[] {least - 2, least - 1, most + 1, most + 2, 9999}) {
            if (v >= 0) {
                fault(before + v + after, CAN_NOT_BE, before.length());
                fault(before + v + after + " x", CAN_NOT_BE, before.length());
            }
        }
        int[] right = {least, Math.min(least + 1, most), Math.max(least, most - 1), most};
        for (int v : right) {
            told(before + v + after, 1);
        }
    }

    private static void boundsOfAthlete() {
        C.part("2 its bounds: athlete RISK");
        bounds("athlete ", ";", 1, 9);
    }

    private static void boundsOfSet() {
        C.part("2 its bounds: set NUMBER NUMBER");
        bounds("set ", " 5;", 0, 5);
        bounds("set 0 ", ";", 1, 400);
        bounds("set 1 ", ";", 2, 5);
        bounds("set 2 ", ";", 0, 30);
        bounds("set 3 ", ";", 0, 48);
        bounds("set 4 ", ";", 0, 9);
        bounds("set 5 ", ";", 1, 60);
    }

    private static void boundsOfAt() {
        C.part("2 its bounds: at DAY HOUR");
        bounds("at ", " 11;", 0, 999);
        bounds("at 1 ", ";", 0, 23);
        bounds("at 999 ", ";", 0, 23);
    }

    private static void boundsOfFile() {
        C.part("2 its bounds: file ATHLETE a b HOUR PLACE");
        bounds("file ", " 1 2 12 3;", 0, 0);
        fault("file 0 1100 1100 12 3;", CAN_NOT_BE, 7);
        fault("file 0 1101 1 12 3;", CAN_NOT_BE, 7);
        told("file 0 1099 1099 12 3;", 1);
        told("athlete 5;file 1 0 0 12 3;", 2);
        fault("file 0 1099 1100 12 3;", CAN_NOT_BE, 12);
        fault("file 0 1098 1100 12 3;", CAN_NOT_BE, 12);
        told("file 0 1098 1099 12 3;", 1);
        bounds("file 0 1 2 ", " 3;", 5, 22);
        bounds("file 0 1 2 12 ", ";", 0, 9);
    }

    private static void spansOfFile() {
        C.part("2 b less than a, or 60 or more behind it");
        fault("file 0 5 3 12 3;", CAN_NOT_BE, 9);
        fault("file 0 5 4 12 3;", CAN_NOT_BE, 9);
        told("file 0 5 5 12 3;", 1);
        told("file 0 5 6 12 3;", 1);
        told("file 0 5 63 12 3;", 1);
        told("file 0 5 64 12 3;", 1);
        fault("file 0 5 65 12 3;", CAN_NOT_BE, 9);
        fault("file 0 5 66 12 3;", CAN_NOT_BE, 9);
        fault("file 0 1 0 12 3;", CAN_NOT_BE, 9);
        told("file 0 1040 1099 12 3;", 1);
        fault("file 0 1039 1099 12 3;", CAN_NOT_BE, 12);
        // Day 0 can't be filed now, but that is told only of a statement that is read whole.
        fault("file 0 0 60 12 3;", CAN_NOT_BE, 9);
        fault("file 0 0 59 12 3;", CAN_NOT_BE_DONE, 0);
    }

    private static void boundsOfTest() {
        C.part("2 its bounds: test ATHLETE PLACE");
        bounds("test ", " 1 found;", 0, 0);
        bounds("test 0 ", " found;", 0, 9);
        bounds("test 0 ", " missed;", 0, 9);
    }

    private static void boundsOfAppeal() {
        C.part("2 an ATHLETE, FAILURE that there is not: appeal");
        bounds("appeal ", " 0;", 0, 0);
        bounds("appeal 0 ", ";", 0, 0);
    }

    private static void thoseThereAreByThen() {
        C.part("2 an ATHLETE, FAILURE that there is not, by then");
        fault("test 1 1 found;athlete 5;", CAN_NOT_BE, 5);
        told("athlete 5;test 1 1 found;", 2);
        fault("athlete 5;test 2 1 found;", CAN_NOT_BE, 15);
        fault("appeal 0 1;test 0 1 missed;", CAN_NOT_BE, 9);
        told("test 0 1 missed;appeal 0 1;", 2);
        fault("test 0 1 missed;appeal 0 2;", CAN_NOT_BE, 25);
        fault("test 0 1 found;appeal 0 1;", CAN_NOT_BE, 24);
        fault("athlete 5;appeal 1 0;", CAN_NOT_BE, 19);
        // With a fault the athlete of the text is none.
        Subject x = ready();
        C.due("a fault", x.tell("athlete 5;x"), NONE);
        C.due("no athlete 1", x.tell("test 1 1 found;"), NONE);
        C.due("its fault", x.fault(), CAN_NOT_BE + 8 * 5);
        Subject six = Subject.withAthletes(1, 2, 3, 4, 5, 6);
        C.due("athlete 5", six.tell("test 5 1 found;"), 1);
        C.due("athlete 6", six.tell("test 6 1 found;"), NONE);
        C.due("its fault", six.fault(), CAN_NOT_BE + 8 * 5);
        Subject none = new Subject();
        C.due("athlete 0 of none", none.tell("test 0 1 found;"), NONE);
        C.due("its fault", none.fault(), CAN_NOT_BE + 8 * 5);
    }

    // ---- "the first along the text, of one place the least"

    private static void firstAlongTheText() {
        C.part("the first along the text");
        fault("athlete 0", CAN_NOT_BE, 8);
        fault("athlete 0 x", CAN_NOT_BE, 8);
        fault("athlete x 0;", CAN_NOT_STAND, 8);
        fault("file 9 x 2 12 3;", CAN_NOT_BE, 5);
        fault("file 0 x 2 12 3;", CAN_NOT_STAND, 7);
        fault("file 9 9999 9999 99 99;", CAN_NOT_BE, 5);
        fault("file 0 9999 9999 99 99;", CAN_NOT_BE, 7);
        fault("file 0 1 9999 99 99;", CAN_NOT_BE, 9);
        fault("file 0 1 2 99 99;", CAN_NOT_BE, 11);
        fault("file 0 1 2 12 99;", CAN_NOT_BE, 14);
        fault("set 6 9999;", CAN_NOT_BE, 4);
        fault("at 1000 24;", CAN_NOT_BE, 3);
        fault("appeal 1 9;", CAN_NOT_BE, 7);
        fault("test 0 10 x;", CAN_NOT_BE, 7);
        fault("at 0 9;x", CAN_NOT_BE_DONE, 0);
        fault("at 0 9;athlete 0;", CAN_NOT_BE_DONE, 0);
        fault("athlete 0;at 0 9;", CAN_NOT_BE, 8);
        fault("x at 0 9;", CAN_NOT_STAND, 0);
        fault("at 0 9;at 0 8;", CAN_NOT_BE_DONE, 0);
    }

    private static void leastOfOnePlace() {
        C.part("of one place the least");
        // Five digits can't stand there and are beyond every bound as well.
        fault("athlete 99999;", CAN_NOT_STAND, 8);
        fault("set 0 99999;", CAN_NOT_STAND, 6);
        fault("at 0 99999;", CAN_NOT_STAND, 5);
        fault("file 0 1 99999 12 3;", CAN_NOT_STAND, 9);
        fault("appeal 0 99999;", CAN_NOT_STAND, 9);
    }

    // ---- "3 at the word of a STATEMENT that is read whole (its ;, too) without these: it can't be
    // done now (a 7th ATHLETE, TIME that is not behind, what can't be FILED, an APPEAL that comes
    // to nothing)."

    private static void notReadWhole() {
        C.part("3 of a STATEMENT that is read whole (its ;, too) without these");
        fault("at 0 9;", CAN_NOT_BE_DONE, 0);
        fault("at 0 9", CAN_NOT_STAND, 6);
        fault("at 0 9 ", CAN_NOT_STAND, 7);
        fault("at 0 9x;", CAN_NOT_STAND, 6);
        fault("at 0 9 9;", CAN_NOT_STAND, 7);
        fault("at 0 24;", CAN_NOT_BE, 5);
        fault("file 0 0 0 12 3", CAN_NOT_STAND, 15);
        fault("file 0 0 0 12 10;", CAN_NOT_BE, 14);
        fault("file 0 0 0 12 3;", CAN_NOT_BE_DONE, 0);
    }

    private static void seventhAthlete() {
        C.part("3 a 7th ATHLETE");
        Subject x = Subject.withAthletes(1, 2, 3, 4);
        C.due("a 5th", x.tell("athlete 5;"), 1);
        C.due("a 6th and a 7th", x.tell("athlete 6;athlete 7;"), NONE);
        C.due("the 7th", x.fault(), CAN_NOT_BE_DONE + 8 * 10);
        C.due("not the 6th either", x.count(0), 5);
        C.due("a 6th", x.tell("athlete 6;"), 1);
        C.due("a 7th", x.tell("athlete 7;"), NONE);
        C.due("fault", x.fault(), CAN_NOT_BE_DONE);
        C.due("a 7th not read whole", x.tell("athlete 7"), NONE);
        C.due("fault", x.fault(), CAN_NOT_STAND + 8 * 9);
        C.due("a 7th of no risk", x.tell("athlete 10;"), NONE);
        C.due("fault", x.fault(), CAN_NOT_BE + 8 * 8);
        C.due("still 6", x.count(0), 6);
    }

    private static void timeNotBehind() {
        C.part("3 TIME that is not behind");
        fault("at 0 9;", CAN_NOT_BE_DONE, 0);
        fault("at 0 10;", CAN_NOT_BE_DONE, 0);
        told("at 0 11;", 1);
        told("at 1 0;", 1);
        fault("at 0 0;", CAN_NOT_BE_DONE, 0);
        fault("at 1 0;at 0 23;", CAN_NOT_BE_DONE, 7);
        fault("at 1 0;at 1 0;", CAN_NOT_BE_DONE, 7);
        told("at 1 0;at 1 1;", 2);
        fault("at 999 23;at 999 23;", CAN_NOT_BE_DONE, 10);
    }

    private static void whatCanNotBeFiled() {
        C.part("3 what can't be FILED");
        fault("at 5 8;file 0 4 9 20 1;", CAN_NOT_BE_DONE, 7);
        fault("at 5 8;file 0 5 9 7 1;", CAN_NOT_BE_DONE, 7);
        fault("at 5 8;file 0 5 9 8 1;", CAN_NOT_BE_DONE, 7);
        told("at 5 8;file 0 5 9 9 1;", 2);
        told("at 5 8;file 0 6 9 8 1;", 2);
        told("at 5 9;file 0 5 9 20 1;", 2);
        fault("at 5 10;file 0 5 9 20 1;", CAN_NOT_BE_DONE, 8);
        fault("at 5 11;file 0 5 9 20 1;", CAN_NOT_BE_DONE, 8);
        told("at 40 11;file 0 40 49 20 1;", 2);
    }

    private static void appealsToNothing() {
        C.part("3 an APPEAL that comes to nothing");
        told("appeal 0 0;", 1);
        fault("appeal 0 0;appeal 0 0;", CAN_NOT_BE_DONE, 11);
        told("at 13 0;appeal 0 0;", 2);
        told("at 14 23;appeal 0 0;", 2);
        fault("at 15 0;appeal 0 0;", CAN_NOT_BE_DONE, 8);
        told("set 5 15;at 15 0;appeal 0 0;", 3);
    }

    private static void whatIsNoFault() {
        C.part("3 names no other");
        told("set 0 120;", 1);
        told("set 0 7;set 0 7;", 2);
        told("test 0 2 missed;", 1);
        told("file 0 1 2 10 1;", 1);
    }
}
