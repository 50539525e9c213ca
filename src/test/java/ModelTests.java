import java.util.Random;

/** Runs of calls drawn by fixed seeds, each answer against that of the model. */
public final class ModelTests {
    private static final int RUNS = 8000;
    /** The dearest step, a text, takes fewer calls than this. */
    private static final int CALLS_OF_A_STEP = 40;

    private final Check check = new Check();
    private final Random random;
    private final Subject x = new Subject();
    private final Model m = new Model();
    /** How far time goes on at most, so that some runs are crowded and some reach the end. */
    private final int stride;

    private ModelTests(int seed) {
        random = new Random(seed);
        stride = new int[] {1, 3, 12, 40}[seed % 4];
        check.part("seed " + seed);
    }

    public static void main(String[] args) {
        long steps = 0;
        for (int seed = 0; seed < RUNS; seed++) {
            ModelTests run = new ModelTests(seed);
            while (run.hasCallsLeft() && run.check.allRight()) {
                run.step();
                steps++;
            }
            if (!run.check.allRight()) {
                System.exit(1);
            }
        }
        System.out.println(steps + " steps as the model");
    }

    private boolean hasCallsLeft() {
        return x.calls() + CALLS_OF_A_STEP <= Subject.PROMISED_CALLS;
    }

    private int upTo(int n) {
        return random.nextInt(n);
    }

    private boolean rarely() {
        return upTo(25) == 0;
    }

    private int odd() {
        int[] all = {-1, -2, 5, 6, 10, 24, 60, 1000, 1100, Integer.MAX_VALUE, Integer.MIN_VALUE};
        return all[upTo(all.length)];
    }

    private int athlete() {
        return rarely() ? odd() : upTo(Math.max(1, m.men.size()));
    }

    private int place() {
        return rarely() ? odd() : upTo(20) == 0 ? upTo(10) : upTo(2);
    }

    private int filedHour() {
        return rarely() ? upTo(24) : upTo(20) == 0 ? odd() : 10 + upTo(4);
    }

    private int nearDay() {
        return rarely() ? odd() : m.day + upTo(5) - (upTo(4) == 0 ? 2 : 0);
    }

    private int failureNumber(int athlete) {
        Model.Man man = m.man(athlete);
        int many = man == null ? 0 : man.failures.size();
        return rarely() ? odd() : many == 0 ? 0 : upTo(3) == 0 ? upTo(many + 1) : many - 1;
    }

    private int[] nextTime() {
        int way = upTo(10);
        if (way == 0) {
            return new int[] {m.day - 1 + upTo(3), upTo(24)};
        }
        if (rarely()) {
            return new int[] {odd(), odd()};
        }
        if (way < 5) {
            return new int[] {m.day, m.hour + 1 + upTo(6)};
        }
        return new int[] {m.day + 1 + upTo(stride), 6 + upTo(10)};
    }

    private void step() {
        int way = upTo(20);
        if (way < 4) {
            goOn();
        } else if (way < 8) {
            fileSpan();
        } else if (way < 11) {
            visit();
        } else if (way < 12) {
            strike();
        } else if (way < 13) {
            enterOrChange();
        } else if (way < 15) {
            text();
        } else {
            ask();
        }
    }

    private void goOn() {
        int[] t = nextTime();
        check.due("at " + t[0] + " " + t[1], x.at(t[0], t[1]), m.at(t[0], t[1]));
    }

    private void fileSpan() {
        int a = athlete();
        int from = nearDay();
        int to = from + (upTo(3) == 0 ? upTo(62) - 1 : upTo(4));
        int h = filedHour();
        int p = place();
        check.due("file " + a + " " + from + " " + to + " " + h + " " + p,
            x.file(a, from, to, h, p), m.file(a, from, to, h, p));
    }

    private void visit() {
        int a = athlete();
        int[] now = m.man(a) == null ? null : m.man(a).filed.get(m.day);
        if (now != null && upTo(3) != 0 && now[0] > m.hour) {
            check.due("at", x.at(m.day, now[0]), m.at(m.day, now[0]));
        }
        int p = now != null && upTo(3) != 0 ? now[1] : place();
        boolean found = upTo(4) == 0;
        check.due("test " + a + " " + p + " " + found, x.test(a, p, found), m.test(a, p, found));
    }

    private void strike() {
        int a = athlete();
        int k = failureNumber(a);
        check.due("appeal " + a + " " + k, x.appeal(a, k), m.appeal(a, k));
    }

    private int value(int setting) {
        if (setting < 0 || setting > 5) {
            return 1;
        }
        int low = Model.BOUNDS[setting][0];
        int high = Model.BOUNDS[setting][1];
        int near = Math.min(high, low + upTo(5));
        return rarely() ? odd() : upTo(3) == 0 ? low - 1 + upTo(high - low + 3) : near;
    }

    private void enterOrChange() {
        if (upTo(2) == 0) {
            int risk = rarely() ? odd() : 1 + upTo(9);
            check.due("athlete " + risk, x.athlete(risk), m.athlete(risk));
        } else {
            int s = rarely() ? odd() : upTo(6);
            int v = value(s);
            check.due("set " + s + " " + v, x.set(s, v), m.set(s, v));
        }
    }

    private String statement() {
        int a = athlete();
        switch (upTo(8)) {
            case 0: return "athlete " + (rarely() ? 0 : 1 + upTo(9));
            case 1: int s = upTo(7); return "set " + s + " " + value(s);
            case 2: int[] t = nextTime(); return "at " + t[0] + " " + t[1];
            case 3: case 4: case 5:
                int from = nearDay();
                return "file " + a + " " + from + " " + (from + upTo(4)) + "\n" + filedHour()
                    + " " + place();
            case 6: return "test " + a + " " + place() + (upTo(2) == 0 ? "found" : " missed");
            default: return "appeal" + a + " " + failureNumber(a);
        }
    }

    private void text() {
        StringBuilder b = new StringBuilder();
        for (int i = upTo(upTo(3) == 0 ? 14 : 3); i >= 0; i--) {
            b.append(statement()).append(upTo(2) == 0 ? ";" : " ;\n ");
        }
        if (upTo(5) == 0) {
            String[] odd = {";", "x", "0", "-", "\t", "at", " ", "12345", "\u00e9", "A", "found"};
            b.insert(upTo(b.length() + 1), odd[upTo(odd.length)]);
        }
        if (upTo(8) == 0) {
            b.deleteCharAt(upTo(b.length()));
        }
        String text = b.toString();
        x.feed(text);
        feedModel(text);
        check.due("bytes", x.count(3), m.count(3));
        check.due("tell " + text, x.tell(), m.tell());
        check.due("fault " + text, x.fault(), m.fault);
        check.due("bytes then", x.count(3), m.count(3));
    }

    private void feedModel(String text) {
        int room = Math.min(text.length(), (400 - m.tape.length()) / 20 * 20);
        int before = m.tape.length();
        String padded = text + "                    ";
        for (int i = 0; i < text.length(); i += 20) {
            if (m.tape.length() <= 380) {
                m.tape.append(padded, i, i + 20);
            }
        }
        m.end(before + text.length());
        check.holds("room " + room, room >= 0);
    }

    /** A few questions at a time, so that the calls reach for a long run. */
    private void ask() {
        switch (upTo(5)) {
            case 0: askOfAthlete(); break;
            case 1: askOfFailures(); break;
            case 2: askWhoIsTested(); break;
            case 3: askOfRound(); break;
            default: askWhatWouldBe(); break;
        }
    }

    private void askOfAthlete() {
        int a = athlete();
        int d = rarely() ? odd() : upTo(1100) % (m.day + 40);
        int what = upTo(12) - 1;
        int c = upTo(18) - 1;
        int q = rarely() ? odd() : m.day / 30 + upTo(3) - 1;
        check.due("of " + a + " " + what, x.of(a, what), ofModel(a, what));
        check.due("filed " + a + " " + d, x.filed(a, d, what % 3), m.filed(a, d, what % 3));
        check.due("hole " + a + " " + q, x.hole(a, q), m.hole(a, q));
        check.due("count " + c, x.count(c), m.count(c));
    }

    private void askOfFailures() {
        int a = athlete();
        int k = failureNumber(a);
        int w = upTo(7) - 1;
        int v = upTo(6) - 1;
        check.due("failure " + a + " " + k + " " + w, x.failure(a, k, w), m.failure(a, k, w));
        check.due("counts " + a + " " + k, x.failure(a, k, 3), m.failure(a, k, 3));
        check.due("open " + a + " " + k, x.failure(a, k, 4), m.failure(a, k, 4));
        check.due("violation " + a + " " + v, x.violation(a, v), m.violation(a, v));
    }

    private void askWhoIsTested() {
        int a = athlete();
        int seed = rarely() ? odd() : random.nextInt();
        int n = rarely() ? odd() : upTo(8);
        boolean under = upTo(2) == 0;
        check.due("lot " + seed + " " + n, x.lot(seed, n), m.lot(seed, n));
        check.due("chance " + a + " " + under, x.chance(a, under), m.chance(a, under));
    }

    private void askOfRound() {
        int h = upTo(3) == 0 ? -1 : filedHour();
        int p = place();
        int w = upTo(4) - 1;
        int near = nearDay();
        int any = upTo(27) - 1;
        check.due("round " + near + " " + h + " " + w, x.round(near, h, w), m.round(near, h, w));
        check.due("there " + near + " " + h, x.there(near, h, p), m.there(near, h, p));
        check.due("there " + near + " " + any, x.there(near, any, p), m.there(near, any, p));
    }

    private void askWhatWouldBe() {
        int a = athlete();
        int k = failureNumber(a);
        check.due("danger " + a, x.danger(a), m.danger(a));
        check.due("easier " + a, x.easier(a), m.easier(a));
        check.due("without " + a + " " + k, x.without(a, k), m.without(a, k));
        check.due("worst", x.worst(), m.worst());
    }

    private int ofModel(int a, int what) {
        try {
            return m.of(a, what);
        } catch (java.util.NoSuchElementException e) {
            return Integer.MIN_VALUE;
        }
    }
}
