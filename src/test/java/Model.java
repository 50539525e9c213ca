import java.util.ArrayList;
import java.util.List;
import java.util.NoSuchElementException;
import java.util.TreeMap;

/**
 * The document told a second time, in another way than the class: with maps and lists, with
 * regular expressions for tokens, and with copies of the whole model where the class keeps rows.
 */
final class Model {
    static final int[][] BOUNDS = {{1, 400}, {2, 5}, {0, 30}, {0, 48}, {0, 9}, {1, 60}};

    static final class Failure {
        final int day;
        final int kind;
        boolean struck;

        Failure(int day, int kind, boolean struck) {
            this.day = day;
            this.kind = kind;
            this.struck = struck;
        }
    }

    static final class Man {
        int risk;
        int came;
        TreeMap<Integer, int[]> filed = new TreeMap<>();
        List<Failure> failures = new ArrayList<>();
        /** Days on which late changes were made. */
        List<Integer> lates = new ArrayList<>();
        /** Day and outcome of each test. */
        List<int[]> tests = new ArrayList<>();

        Man copy() {
            Man m = new Man();
            m.risk = risk;
            m.came = came;
            m.filed.putAll(filed);
            for (Failure f : failures) {
                m.failures.add(new Failure(f.day, f.kind, f.struck));
            }
            m.lates.addAll(lates);
            m.tests.addAll(tests);
            return m;
        }
    }

    /** What follows from failures: which count, which are open, days of violations. */
    static final class Story {
        List<Boolean> counts = new ArrayList<>();
        List<Boolean> open = new ArrayList<>();
        List<Integer> violations = new ArrayList<>();
    }

    int day;
    int hour;
    int[] settings = {120, 3, 3, 24, 2, 14};
    List<Man> men = new ArrayList<>();
    StringBuilder tape = new StringBuilder();
    int fault;

    Man man(int a) {
        return a < 0 || a >= men.size() ? null : men.get(a);
    }

    static Story story(List<Failure> failures, int[] s) {
        Story t = new Story();
        for (int k = 0; k < failures.size(); k++) {
            Failure f = failures.get(k);
            Integer last = null;
            for (int j = 0; j < k; j++) {
                if (t.counts.get(j)) {
                    last = failures.get(j).day;
                }
            }
            boolean counts = !f.struck && (last == null || f.day >= last + s[2]);
            t.counts.add(counts);
            t.open.add(counts);
            if (counts && points(failures, t, f.day, s[0]) >= s[1]) {
                t.violations.add(f.day);
                for (int j = 0; j <= k; j++) {
                    t.open.set(j, false);
                }
            }
        }
        return t;
    }

    static int points(List<Failure> failures, Story t, int day, int window) {
        int n = 0;
        for (int j = 0; j < t.open.size(); j++) {
            if (t.open.get(j) && failures.get(j).day > day - window) {
                n++;
            }
        }
        return n;
    }

    int points(Man m, int onDay) {
        return points(m.failures, story(m.failures, settings), onDay, settings[0]);
    }

    int weight(Man m) {
        int since = m.tests.isEmpty() ? m.came : m.tests.get(m.tests.size() - 1)[0];
        return m.risk * (1 + day - since) * (1 + points(m, day));
    }

    int note(Man m, int onDay, int kind) {
        if (m.failures.size() == 60) {
            return 0;
        }
        m.failures.add(new Failure(onDay, kind, false));
        return 1;
    }

    int feed(int a, int b, int c, int d, int e) {
        if (tape.length() > 380) {
            return -1;
        }
        for (int v : new int[] {a, b, c, d, e}) {
            tape.append((char) (v >>> 24)).append((char) (v >>> 16 & 255));
            tape.append((char) (v >>> 8 & 255)).append((char) (v & 255));
        }
        return tape.length();
    }

    boolean end(int n) {
        if (n < 0 || n > tape.length()) {
            return false;
        }
        tape.setLength(n);
        return true;
    }

    int tell() {
        int oldDay = day;
        int oldHour = hour;
        int[] oldSettings = settings.clone();
        List<Man> oldMen = new ArrayList<>();
        for (Man m : men) {
            oldMen.add(m.copy());
        }
        String text = tape.toString();
        tape.setLength(0);
        fault = 0;
        int done = new ModelText(this, text).run();
        if (fault != 0) {
            day = oldDay;
            hour = oldHour;
            settings = oldSettings;
            men = oldMen;
            return -1;
        }
        return done;
    }

    int athlete(int risk) {
        if (risk < 1 || risk > 9) {
            return -1;
        }
        if (men.size() == 6) {
            return -2;
        }
        Man m = new Man();
        m.risk = risk;
        m.came = day;
        men.add(m);
        return men.size() - 1;
    }

    boolean set(int setting, int v) {
        if (setting < 0 || setting > 5 || v < BOUNDS[setting][0] || v > BOUNDS[setting][1]) {
            return false;
        }
        boolean other = settings[setting] != v;
        settings[setting] = v;
        return other;
    }

    int at(int d, int h) {
        if (d < 0 || d > 999 || h < 0 || h > 23 || d * 24 + h <= day * 24 + hour) {
            return -1;
        }
        int came = 0;
        while (day < d) {
            day++;
            if (day % 30 == 0) {
                for (int i = 0; i < men.size(); i++) {
                    if (hole(i, day / 30) != -1) {
                        came += note(men.get(i), day, 0);
                    }
                }
            }
        }
        hour = h;
        return came;
    }

    int file(int a, int from, int to, int h, int p) {
        Man m = man(a);
        if (m == null || from < 0 || to > 1099 || to < from || (long) to - from > 59) {
            return -1;
        }
        if (h < 5 || h > 22 || p < 0 || p > 9 || from < day) {
            return -1;
        }
        if (from == day) {
            int[] now = m.filed.get(day);
            if (h <= hour || now != null && now[0] <= hour) {
                return -1;
            }
        }
        int changes = 0;
        for (int d = from; d <= to; d++) {
            int[] old = m.filed.put(d, new int[] {h, p});
            if (old != null && (old[0] != h || old[1] != p)) {
                changes++;
                int left = d * 24 + Math.min(old[0], h) - (day * 24 + hour);
                if (left < settings[3]) {
                    m.lates.add(day);
                    if (lates(m) > settings[4]) {
                        note(m, day, 1);
                    }
                }
            }
        }
        return changes;
    }

    int lates(Man m) {
        int n = 0;
        for (int d : m.lates) {
            if (d / 30 == day / 30) {
                n++;
            }
        }
        return n;
    }

    int test(int a, int p, boolean found) {
        Man m = man(a);
        if (m == null || p < 0 || p > 9) {
            return -1;
        }
        int[] now = m.filed.get(day);
        boolean there = now != null && now[0] == hour && now[1] == p;
        int outcome = found ? 0 : there ? 1 : 2;
        m.tests.add(new int[] {day, outcome});
        if (outcome == 1) {
            note(m, day, 2);
        }
        return outcome;
    }

    boolean appeal(int a, int k) {
        Man m = man(a);
        if (m == null || k < 0 || k >= m.failures.size()) {
            return false;
        }
        Failure f = m.failures.get(k);
        if (f.struck || day - f.day > settings[5]) {
            return false;
        }
        f.struck = true;
        return true;
    }

    int count(int what) {
        if (what >= 10 && what <= 15) {
            return settings[what - 10];
        }
        return what == 0 ? men.size() : what == 1 ? day : what == 2 ? hour
            : what == 3 ? tape.length() : -1;
    }

    int of(int a, int what) {
        Man m = man(a);
        if (m == null || what < 0 || what > 9) {
            throw new NoSuchElementException();
        }
        int missed = 0;
        for (int[] t : m.tests) {
            missed += t[1] == 1 ? 1 : 0;
        }
        int last = m.tests.isEmpty() ? -1 : m.tests.get(m.tests.size() - 1)[0];
        int[] all = {m.risk, points(m, day), m.failures.size(),
            story(m.failures, settings).violations.size(), lates(m), m.tests.size(), missed,
            last, weight(m), m.came};
        return all[what];
    }

    int filed(int a, int d, int what) {
        Man m = man(a);
        if (m == null || !m.filed.containsKey(d) || what < 0 || what > 1) {
            return -1;
        }
        return m.filed.get(d)[what];
    }

    int failure(int a, int k, int what) {
        Man m = man(a);
        if (m == null || k < 0 || k >= m.failures.size() || what < 0 || what > 4) {
            return -1;
        }
        Failure f = m.failures.get(k);
        Story t = story(m.failures, settings);
        int[] all = {f.day, f.kind, f.struck ? 1 : 0, t.counts.get(k) ? 1 : 0,
            t.open.get(k) ? 1 : 0};
        return all[what];
    }

    int violation(int a, int k) {
        Man m = man(a);
        if (m == null) {
            return -1;
        }
        List<Integer> v = story(m.failures, settings).violations;
        return k < 0 || k >= v.size() ? -1 : v.get(k);
    }

    int hole(int a, int quarter) {
        Man m = man(a);
        if (m == null || quarter < 0 || quarter > 35) {
            return -1;
        }
        for (int d = 0; d < 1100; d++) {
            if (d / 30 == quarter && !m.filed.containsKey(d)) {
                return d;
            }
        }
        return -1;
    }

    int lot(int seed, int n) {
        if (seed < 0 || n < 1 || n > men.size()) {
            return -1;
        }
        java.math.BigInteger x = java.math.BigInteger.valueOf(seed);
        List<Integer> left = new ArrayList<>();
        for (int i = 0; i < men.size(); i++) {
            left.add(i);
        }
        StringBuilder digits = new StringBuilder();
        for (int i = 0; i < n; i++) {
            x = x.multiply(java.math.BigInteger.valueOf(1103515245))
                .add(java.math.BigInteger.valueOf(12345))
                .mod(java.math.BigInteger.valueOf(2147483648L));
            List<Integer> tickets = new ArrayList<>();
            int sum = 0;
            for (int a : left) {
                sum += weight(men.get(a));
            }
            int r = x.mod(java.math.BigInteger.valueOf(sum)).intValue();
            for (int a : left) {
                r -= weight(men.get(a));
                if (r < 0) {
                    tickets.add(a);
                    break;
                }
            }
            digits.append(tickets.get(0));
            left.remove(tickets.get(0));
        }
        return Integer.parseInt(digits.toString());
    }

    int chance(int a, boolean under) {
        Man m = man(a);
        if (m == null) {
            return -1;
        }
        int sum = 0;
        for (Man other : men) {
            sum += weight(other);
        }
        int g = java.math.BigInteger.valueOf(sum)
            .gcd(java.math.BigInteger.valueOf(weight(m))).intValue();
        return (under ? sum : weight(m)) / g;
    }

    int round(int d, int h, int what) {
        if (d < 0 || d > 1099 || h < -1 || h > 23 || what < 0 || what > 1) {
            return -1;
        }
        int hours = 0;
        int met = 0;
        for (int i = 0; i < 24; i++) {
            int best = -1;
            int bits = 0;
            for (int p = 9; p >= 0; p--) {
                int those = Math.max(0, there(d, i, p));
                if (those != 0 && Integer.bitCount(those) >= Integer.bitCount(bits)) {
                    best = p;
                    bits = those;
                }
            }
            if (i == h) {
                return best == -1 ? -1 : what == 0 ? best : bits;
            }
            hours += best == -1 ? 0 : 1;
            met += Integer.bitCount(bits);
        }
        return what == 0 ? hours : met;
    }

    int there(int d, int h, int p) {
        if (d < 0 || d > 1099 || h < 5 || h > 22 || p < 0 || p > 9) {
            return -1;
        }
        int bits = 0;
        for (int i = 0; i < men.size(); i++) {
            int[] f = men.get(i).filed.get(d);
            bits += f != null && f[0] == h && f[1] == p ? 1 << i : 0;
        }
        return bits;
    }

    int danger(int a) {
        Man m = man(a);
        if (m == null) {
            return -1;
        }
        List<Failure> more = new ArrayList<>(m.failures);
        more.add(new Failure(day, 2, false));
        return story(more, settings).violations.size()
            - story(m.failures, settings).violations.size();
    }

    int easier(int a) {
        Man m = man(a);
        if (m == null || points(m, day) == 0) {
            return -1;
        }
        int d = day + 1;
        while (points(m, d) >= points(m, day)) {
            d++;
        }
        return d;
    }

    int without(int a, int k) {
        Man m = man(a);
        if (m == null || k < 0 || k >= m.failures.size()) {
            return -1;
        }
        List<Failure> other = m.copy().failures;
        other.get(k).struck = true;
        return story(other, settings).violations.size();
    }

    int worst() {
        int worst = -1;
        for (int i = men.size() - 1; i >= 0; i--) {
            if (worst == -1 || badness(i) >= badness(worst)) {
                worst = i;
            }
        }
        return worst;
    }

    private int badness(int i) {
        return of(i, 3) * 10000 + of(i, 1) * 100 + of(i, 2);
    }
}
