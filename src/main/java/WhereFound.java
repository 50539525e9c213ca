import java.util.Arrays;
import java.util.NoSuchElementException;

/** Sportsmen who tell where they will be, the tests that miss them, and what follows from it. */
public final class WhereFound {
    public static final int NONE = -1;

    private static final int MOST_ATHLETES = 6;
    private static final int MOST_FAILURES = 60;
    private static final int HIGHEST_RISK = 9;
    private static final int LAST_DAY = 999;
    private static final int HOURS = 24;
    private static final int QUARTER_DAYS = 30;
    private static final int LAST_QUARTER = 35;
    private static final int FILED_DAYS = 1100;
    private static final int LONGEST_FILING = 60;
    private static final int FIRST_FILED_HOUR = 5;
    private static final int LAST_FILED_HOUR = 22;
    private static final int PLACES = 10;

    private static final int WINDOW = 0;
    private static final int LIMIT = 1;
    private static final int NOTICE = 2;
    private static final int LEAD = 3;
    private static final int FREE = 4;
    private static final int APPEAL = 5;
    private static final int SETTINGS = 6;
    private static final int[] SETTING_LEAST = {1, 2, 0, 0, 0, 1};
    private static final int[] SETTING_MOST = {400, 5, 30, 48, 9, 60};
    private static final int[] SETTING_AT_FIRST = {120, 3, 3, 24, 2, 14};
    private static final int SETTINGS_FROM = 10;

    private static final int FAILED_TO_FILE_WHOLE = 0;
    private static final int FAILED_BY_LATE_CHANGE = 1;
    private static final int FAILED_TO_BE_FOUND = 2;

    private static final int FOUND = 0;
    private static final int MISSED = 1;
    private static final int VOID = 2;

    private static final int FULL = -2;

    private Register live;
    /** Holds the state as it was while a text is told; a fault makes it the live one again. */
    private Register kept;
    private final Tally tally;
    private final Tape tape;
    private final Text text;
    private final int[] weights;
    private int latestFault;

    public WhereFound() {
        live = new Register();
        kept = new Register();
        tally = new Tally();
        tape = new Tape();
        text = new Text(tape);
        weights = new int[MOST_ATHLETES];
        latestFault = 0;
    }

    // ---- what is told

    public int feed(int a, int b, int c, int d, int e) {
        if (!tape.hasRoomForFive()) {
            return NONE;
        }
        tape.put(a);
        tape.put(b);
        tape.put(c);
        tape.put(d);
        tape.put(e);
        return tape.size;
    }

    public boolean end(int n) {
        if (n < 0 || n > tape.size) {
            return false;
        }
        tape.size = n;
        return true;
    }

    public int tell() {
        kept.become(live);
        int statements = text.perform(live);
        tape.size = 0;
        latestFault = text.foundFault;
        if (latestFault == 0) {
            return statements;
        }
        Register spoiled = live;
        live = kept;
        kept = spoiled;
        return NONE;
    }

    public int fault() {
        return latestFault;
    }

    public int athlete(int risk) {
        return live.enter(risk);
    }

    public boolean set(int setting, int v) {
        return live.change(setting, v);
    }

    public int at(int day, int hour) {
        return live.goOn(day, hour);
    }

    public int file(int athlete, int a, int b, int hour, int place) {
        return live.enterSpan(athlete, a, b, hour, place);
    }

    public int test(int athlete, int place, boolean found) {
        return live.visit(athlete, place, found);
    }

    public boolean appeal(int athlete, int failure) {
        return live.strike(athlete, failure);
    }

    public int count(int what) {
        switch (what) {
            case 0:
                return live.athletes;
            case 1:
                return live.day;
            case 2:
                return live.hour;
            case 3:
                return tape.size;
            default:
                return live.settingOrNone(what < SETTINGS_FROM ? NONE : what - SETTINGS_FROM);
        }
    }

    // ---- what there is

    public int of(int athlete, int what) throws NoSuchElementException {
        Sportsman who = live.find(athlete);
        if (who == null) {
            throw new NoSuchElementException("no such athlete");
        }
        switch (what) {
            case 0:
                return who.risk;
            case 1:
                return pointsOf(who);
            case 2:
                return who.failures;
            case 3:
                return violationsOf(who);
            case 4:
                return who.late;
            case 5:
                return who.tests;
            case 6:
                return who.missed;
            case 7:
                return who.lastTest;
            case 8:
                return weightOf(who);
            case 9:
                return who.came;
            default:
                throw new NoSuchElementException("no such what");
        }
    }

    public int filed(int athlete, int day, int what) {
        Sportsman who = live.find(athlete);
        if (who == null || !canBeFiledDay(day)) {
            return NONE;
        }
        int slot = who.slots[day];
        if (slot == Sportsman.NOTHING) {
            return NONE;
        }
        switch (what) {
            case 0:
                return Sportsman.hourOf(slot);
            case 1:
                return Sportsman.placeOf(slot);
            default:
                return NONE;
        }
    }

    public int failure(int athlete, int k, int what) {
        Sportsman who = live.find(athlete);
        if (who == null || !who.hasFailure(k)) {
            return NONE;
        }
        tally.goThrough(who, live.settings, NONE);
        switch (what) {
            case 0:
                return who.failureDay[k];
            case 1:
                return who.failureKind[k];
            case 2:
                return who.struck[k];
            case 3:
                return tally.doesCount(k) ? 1 : 0;
            case 4:
                return tally.isOpen(k) ? 1 : 0;
            default:
                return NONE;
        }
    }

    public int violation(int athlete, int k) {
        Sportsman who = live.find(athlete);
        if (who == null) {
            return NONE;
        }
        tally.goThrough(who, live.settings, NONE);
        return tally.dayOfViolation(k);
    }

    public int hole(int athlete, int quarter) {
        Sportsman who = live.find(athlete);
        return who == null ? NONE : who.firstGap(quarter);
    }

    // ---- who is tested

    public int lot(int seed, int n) {
        if (seed < 0 || n < 1 || n > live.athletes) {
            return NONE;
        }
        long sum = weighAll();
        long x = seed;
        int digits = 0;
        for (int i = 0; i < n && sum > 0; i++) {
            x = (1103515245L * x + 12345L) % 2147483648L;
            int drawn = firstAbove(x % sum);
            if (drawn == NONE) {
                return NONE;
            }
            sum -= weights[drawn];
            // Without weight he can't be drawn again.
            weights[drawn] = 0;
            digits = digits * 10 + drawn;
        }
        return digits;
    }

    public int chance(int athlete, boolean under) {
        if (athlete < 0 || athlete >= live.athletes || athlete >= MOST_ATHLETES) {
            return NONE;
        }
        int lower = weighAll();
        int upper = weights[athlete];
        int divisor = greatestDivisor(upper, lower);
        if (divisor < 1) {
            return NONE;
        }
        return (under ? lower : upper) / divisor;
    }

    public int round(int day, int hour, int what) {
        if (!canBeFiledDay(day) || what < 0 || what > 1) {
            return NONE;
        }
        if (hour == NONE) {
            return what == 0 ? hoursOfRound(day) : athletesOfRound(day);
        }
        if (!canBeHour(hour)) {
            return NONE;
        }
        int place = live.fullestPlace(day, hour);
        if (place == NONE) {
            return NONE;
        }
        return what == 0 ? place : live.bitsOfThose(day, hour, place);
    }

    public int there(int day, int hour, int place) {
        if (!canBeFiledDay(day) || !canBeFiledHour(hour) || !canBePlace(place)) {
            return NONE;
        }
        return live.bitsOfThose(day, hour, place);
    }

    // ---- what would be

    public int danger(int athlete) {
        Sportsman who = live.find(athlete);
        if (who == null) {
            return NONE;
        }
        int before = violationsOf(who);
        tally.add(live.day, false);
        return tally.violations > before ? 1 : 0;
    }

    public int easier(int athlete) {
        Sportsman who = live.find(athlete);
        if (who == null) {
            return NONE;
        }
        tally.goThrough(who, live.settings, NONE);
        int oldest = tally.dayOfOldestPoint(live.day);
        return oldest == NONE ? NONE : oldest + live.settings[WINDOW];
    }

    public int without(int athlete, int failure) {
        Sportsman who = live.find(athlete);
        if (who == null || !who.hasFailure(failure)) {
            return NONE;
        }
        tally.goThrough(who, live.settings, failure);
        return tally.violations;
    }

    public int worst() {
        int worst = NONE;
        int mostViolations = 0;
        int mostPoints = 0;
        int mostFailures = 0;
        for (int i = 0; i < live.athletes; i++) {
            Sportsman who = live.find(i);
            if (who == null) {
                return NONE;
            }
            int violations = violationsOf(who);
            int points = pointsOf(who);
            int order = Integer.compare(violations, mostViolations);
            if (order == 0) {
                order = Integer.compare(points, mostPoints);
            }
            if (order == 0) {
                order = Integer.compare(who.failures, mostFailures);
            }
            if (worst == NONE || order > 0) {
                worst = i;
                mostViolations = violations;
                mostPoints = points;
                mostFailures = who.failures;
            }
        }
        return worst;
    }

    // ---- what several calls ask

    private int pointsOf(Sportsman who) {
        tally.goThrough(who, live.settings, NONE);
        return tally.pointsOn(live.day);
    }

    private int violationsOf(Sportsman who) {
        tally.goThrough(who, live.settings, NONE);
        return tally.violations;
    }

    private int weightOf(Sportsman who) {
        int since = who.lastTest == NONE ? who.came : who.lastTest;
        return who.risk * (1 + live.day - since) * (1 + pointsOf(who));
    }

    /** Puts down the weights of all athletes; their sum. */
    private int weighAll() {
        int sum = 0;
        for (int i = 0; i < MOST_ATHLETES; i++) {
            Sportsman who = live.find(i);
            weights[i] = who == null ? 0 : weightOf(who);
            sum += weights[i];
        }
        return sum;
    }

    /** The first athlete with whom the weights up to him are above r. */
    private int firstAbove(long r) {
        long upTo = 0;
        for (int i = 0; i < MOST_ATHLETES; i++) {
            upTo += weights[i];
            if (upTo > r) {
                return i;
            }
        }
        return NONE;
    }

    private static int greatestDivisor(int a, int b) {
        int larger = a;
        int smaller = b;
        // Two steps at least halve the numbers, so 64 are enough for any two ints.
        for (int i = 0; i < 64 && smaller != 0; i++) {
            int rest = larger % smaller;
            larger = smaller;
            smaller = rest;
        }
        return larger;
    }

    private int hoursOfRound(int day) {
        int hours = 0;
        for (int hour = FIRST_FILED_HOUR; hour <= LAST_FILED_HOUR; hour++) {
            if (live.fullestPlace(day, hour) != NONE) {
                hours++;
            }
        }
        return hours;
    }

    private int athletesOfRound(int day) {
        int met = 0;
        for (int hour = FIRST_FILED_HOUR; hour <= LAST_FILED_HOUR; hour++) {
            int place = live.fullestPlace(day, hour);
            if (place != NONE) {
                met += Integer.bitCount(live.bitsOfThose(day, hour, place));
            }
        }
        return met;
    }

    // ---- what can be by itself

    private static boolean canBeRisk(int risk) {
        return risk >= 1 && risk <= HIGHEST_RISK;
    }

    private static boolean isSetting(int setting) {
        return setting >= 0 && setting < SETTINGS;
    }

    private static boolean canBeSetting(int setting, int v) {
        return isSetting(setting) && v >= SETTING_LEAST[setting] && v <= SETTING_MOST[setting];
    }

    private static boolean canBeDay(int day) {
        return day >= 0 && day <= LAST_DAY;
    }

    private static boolean canBeHour(int hour) {
        return hour >= 0 && hour < HOURS;
    }

    private static boolean canBeFiledDay(int day) {
        return day >= 0 && day < FILED_DAYS;
    }

    private static boolean canBeSpan(int a, int b) {
        return a >= 0 && b >= a && b < FILED_DAYS && b - a < LONGEST_FILING;
    }

    private static boolean canBeFiledHour(int hour) {
        return hour >= FIRST_FILED_HOUR && hour <= LAST_FILED_HOUR;
    }

    private static boolean canBePlace(int place) {
        return place >= 0 && place < PLACES;
    }

    /** One athlete: what he filed, how he was tested, and his failures as they came. */
    private static final class Sportsman {
        static final int NOTHING = 0;

        int risk;
        int came;
        /** Late changes in the quarter of now. */
        int late;
        int tests;
        int missed;
        int lastTest;
        int failures;
        final int[] failureDay = new int[MOST_FAILURES];
        final int[] failureKind = new int[MOST_FAILURES];
        /** 1 or 0 each: a row of numbers, so that it is copied as the others are. */
        final int[] struck = new int[MOST_FAILURES];
        /** What is filed, by days: an hour and a place in one number, or NOTHING. */
        final int[] slots = new int[FILED_DAYS];

        static int slotOf(int hour, int place) {
            return 1 + hour * PLACES + place;
        }

        static int hourOf(int slot) {
            return (slot - 1) / PLACES;
        }

        static int placeOf(int slot) {
            return (slot - 1) % PLACES;
        }

        /** All of it anew, since a text with a fault may have used the row before. */
        void begin(int itsRisk, int day) {
            risk = itsRisk;
            came = day;
            late = 0;
            tests = 0;
            missed = 0;
            lastTest = NONE;
            failures = 0;
            Arrays.fill(slots, NOTHING);
        }

        void become(Sportsman other) {
            risk = other.risk;
            came = other.came;
            late = other.late;
            tests = other.tests;
            missed = other.missed;
            lastTest = other.lastTest;
            failures = other.failures;
            System.arraycopy(other.failureDay, 0, failureDay, 0, MOST_FAILURES);
            System.arraycopy(other.failureKind, 0, failureKind, 0, MOST_FAILURES);
            System.arraycopy(other.struck, 0, struck, 0, MOST_FAILURES);
            System.arraycopy(other.slots, 0, slots, 0, FILED_DAYS);
        }

        boolean hasFailure(int k) {
            return k >= 0 && k < failures && k < MOST_FAILURES;
        }

        /** How many were noted: 1, or 0 if there are too many. */
        int note(int day, int kind) {
            if (failures < 0 || failures >= MOST_FAILURES) {
                return 0;
            }
            failureDay[failures] = day;
            failureKind[failures] = kind;
            struck[failures] = 0;
            failures++;
            return 1;
        }

        int firstGap(int quarter) {
            if (quarter < 0 || quarter > LAST_QUARTER) {
                return NONE;
            }
            int first = quarter * QUARTER_DAYS;
            for (int day = first; day < first + QUARTER_DAYS && day < FILED_DAYS; day++) {
                if (slots[day] == NOTHING) {
                    return day;
                }
            }
            return NONE;
        }
    }

    /** The state but for the tape: time, settings and athletes, and what changes them. */
    private static final class Register {
        int day;
        int hour;
        int athletes;
        final int[] settings = SETTING_AT_FIRST.clone();
        /** Made when first needed and kept, since many objects have few athletes. */
        private final Sportsman[] rows = new Sportsman[MOST_ATHLETES];

        Sportsman find(int athlete) {
            if (athlete < 0 || athlete >= athletes || athlete >= MOST_ATHLETES) {
                return null;
            }
            return rows[athlete];
        }

        /** Only for numbers from 0 to 5. */
        private Sportsman rowOf(int athlete) {
            Sportsman known = rows[athlete];
            if (known != null) {
                return known;
            }
            Sportsman made = new Sportsman();
            rows[athlete] = made;
            return made;
        }

        void become(Register other) {
            day = other.day;
            hour = other.hour;
            athletes = other.athletes;
            System.arraycopy(other.settings, 0, settings, 0, SETTINGS);
            for (int i = 0; i < MOST_ATHLETES; i++) {
                Sportsman model = other.find(i);
                if (model != null) {
                    rowOf(i).become(model);
                }
            }
        }

        int settingOrNone(int setting) {
            return isSetting(setting) ? settings[setting] : NONE;
        }

        int enter(int risk) {
            if (!canBeRisk(risk)) {
                return NONE;
            }
            if (athletes < 0 || athletes >= MOST_ATHLETES) {
                return FULL;
            }
            rowOf(athletes).begin(risk, day);
            athletes++;
            return athletes - 1;
        }

        boolean change(int setting, int v) {
            if (!canBeSetting(setting, v) || settings[setting] == v) {
                return false;
            }
            settings[setting] = v;
            return true;
        }

        /** How many failures were noted. */
        int goOn(int toDay, int toHour) {
            if (!canBeDay(toDay) || !canBeHour(toHour)) {
                return NONE;
            }
            if (hoursTo(toDay, toHour) <= 0) {
                return NONE;
            }
            int noted = 0;
            int last = toDay / QUARTER_DAYS;
            for (int quarter = day / QUARTER_DAYS + 1; quarter <= last; quarter++) {
                noted += beginQuarter(quarter);
            }
            day = toDay;
            hour = toHour;
            return noted;
        }

        private int hoursTo(int toDay, int toHour) {
            return (toDay - day) * HOURS + toHour - hour;
        }

        private int beginQuarter(int quarter) {
            int noted = 0;
            for (int i = 0; i < athletes; i++) {
                Sportsman who = find(i);
                if (who != null) {
                    who.late = 0;
                    if (who.firstGap(quarter) != NONE) {
                        noted += who.note(quarter * QUARTER_DAYS, FAILED_TO_FILE_WHOLE);
                    }
                }
            }
            return noted;
        }

        /** How many of the days from a to b were changed. */
        int enterSpan(int athlete, int a, int b, int newHour, int place) {
            Sportsman who = find(athlete);
            if (who == null || !canBeSpan(a, b)) {
                return NONE;
            }
            if (!canBeFiledHour(newHour) || !canBePlace(place) || !mayStart(who, a, newHour)) {
                return NONE;
            }
            int slot = Sportsman.slotOf(newHour, place);
            int changes = 0;
            for (int d = a; d <= b; d++) {
                int before = who.slots[d];
                who.slots[d] = slot;
                if (before != Sportsman.NOTHING && before != slot) {
                    changes++;
                    int earlier = Math.min(Sportsman.hourOf(before), newHour);
                    if (hoursTo(d, earlier) < settings[LEAD]) {
                        noteLateChange(who);
                    }
                }
            }
            return changes;
        }

        private boolean mayStart(Sportsman who, int a, int newHour) {
            if (a != day) {
                return a > day;
            }
            int before = who.slots[a];
            return newHour > hour
                && (before == Sportsman.NOTHING || Sportsman.hourOf(before) > hour);
        }

        private void noteLateChange(Sportsman who) {
            who.late++;
            if (who.late > settings[FREE]) {
                who.note(day, FAILED_BY_LATE_CHANGE);
            }
        }

        int visit(int athlete, int place, boolean found) {
            Sportsman who = find(athlete);
            if (who == null || !canBePlace(place)) {
                return NONE;
            }
            who.tests++;
            who.lastTest = day;
            if (found) {
                return FOUND;
            }
            if (!canBeFiledDay(day) || who.slots[day] != Sportsman.slotOf(hour, place)) {
                return VOID;
            }
            who.missed++;
            who.note(day, FAILED_TO_BE_FOUND);
            return MISSED;
        }

        boolean strike(int athlete, int failure) {
            Sportsman who = find(athlete);
            if (who == null || !who.hasFailure(failure) || who.struck[failure] == 1) {
                return false;
            }
            if (day > who.failureDay[failure] + settings[APPEAL]) {
                return false;
            }
            who.struck[failure] = 1;
            return true;
        }

        int bitsOfThose(int onDay, int onHour, int place) {
            if (!canBeFiledDay(onDay)) {
                return 0;
            }
            int slot = Sportsman.slotOf(onHour, place);
            int bits = 0;
            for (int i = 0; i < athletes; i++) {
                Sportsman who = find(i);
                if (who != null && who.slots[onDay] == slot) {
                    bits |= 1 << i;
                }
            }
            return bits;
        }

        int fullestPlace(int onDay, int onHour) {
            int fullest = NONE;
            int most = 0;
            for (int place = 0; place < PLACES; place++) {
                int met = Integer.bitCount(bitsOfThose(onDay, onHour, place));
                if (met > most) {
                    most = met;
                    fullest = place;
                }
            }
            return fullest;
        }
    }

    /** What follows from an athlete's failures by the settings, told anew for each question. */
    private static final class Tally {
        /** One more than are ever noted: danger() asks what one more would bring. */
        private static final int ROWS = MOST_FAILURES + 1;

        int violations;
        private int window;
        private int limit;
        private int notice;
        private int size;
        /** The first failure that no violation so far has closed. */
        private int firstOpen;
        private int lastCounting;
        private final int[] days = new int[ROWS];
        private final boolean[] counting = new boolean[ROWS];
        private final int[] violationDays = new int[ROWS];

        /** The failure asStruck (or NONE) is taken for a struck one, whether it is or not. */
        void goThrough(Sportsman who, int[] settings, int asStruck) {
            window = settings[WINDOW];
            limit = settings[LIMIT];
            notice = settings[NOTICE];
            violations = 0;
            size = 0;
            firstOpen = 0;
            lastCounting = NONE;
            for (int k = 0; k < who.failures && k < MOST_FAILURES; k++) {
                add(who.failureDay[k], who.struck[k] == 1 || k == asStruck);
            }
        }

        void add(int day, boolean struck) {
            int k = size;
            if (k >= ROWS) {
                return;
            }
            size++;
            days[k] = day;
            counting[k] = !struck && isNoticed(day);
            if (!counting[k]) {
                return;
            }
            lastCounting = k;
            if (pointsOn(day) >= limit && violations < ROWS) {
                violationDays[violations] = day;
                violations++;
                firstOpen = size;
            }
        }

        private boolean isNoticed(int day) {
            return lastCounting == NONE || day - days[lastCounting] >= notice;
        }

        boolean doesCount(int k) {
            return k >= 0 && k < size && counting[k];
        }

        boolean isOpen(int k) {
            return k >= firstOpen && doesCount(k);
        }

        int pointsOn(int day) {
            int points = 0;
            for (int k = firstOpen; k < size; k++) {
                if (counting[k] && days[k] > day - window) {
                    points++;
                }
            }
            return points;
        }

        /** The first of the failures that are points on a day, by its own day. */
        int dayOfOldestPoint(int day) {
            for (int k = firstOpen; k < size; k++) {
                if (counting[k] && days[k] > day - window) {
                    return days[k];
                }
            }
            return NONE;
        }

        int dayOfViolation(int k) {
            return k >= 0 && k < violations ? violationDays[k] : NONE;
        }
    }

    /** The bytes that were fed, and their tokens one after the other. */
    private static final class Tape {
        static final int END = 0;
        static final int WORD = 1;
        static final int NUMBER = 2;
        static final int SEMICOLON = 3;
        static final int WRONG = 4;

        private static final int MOST_BYTES = 400;
        private static final int BYTES_OF_FIVE = 20;
        private static final int MOST_DIGITS = 4;

        int size;
        /** The token that was read last: its kind, its first byte, what number it is. */
        int token;
        int first;
        int value;
        private int next;
        private final byte[] bytes = new byte[MOST_BYTES];

        boolean hasRoomForFive() {
            return size + BYTES_OF_FIVE <= MOST_BYTES;
        }

        void put(int four) {
            for (int shift = 24; shift >= 0; shift -= 8) {
                if (size >= 0 && size < MOST_BYTES) {
                    bytes[size] = (byte) (four >> shift);
                    size++;
                }
            }
        }

        void rewind() {
            next = 0;
        }

        void readToken() {
            while (next < size && isBlank(byteAt(next))) {
                next++;
            }
            first = next;
            int sign = byteAt(next);
            if (sign == NONE) {
                token = END;
            } else if (isLetter(sign)) {
                readWord();
            } else if (isDigit(sign)) {
                readNumber();
            } else {
                token = sign == ';' ? SEMICOLON : WRONG;
                next++;
            }
        }

        private void readWord() {
            token = WORD;
            while (next < size && isLetter(byteAt(next))) {
                next++;
            }
        }

        private void readNumber() {
            value = 0;
            while (next < size && isDigit(byteAt(next))) {
                // Digits too many make a fault of it, so that its value is never asked for.
                if (next - first < MOST_DIGITS) {
                    value = value * 10 + byteAt(next) - '0';
                }
                next++;
            }
            token = next - first > MOST_DIGITS ? WRONG : NUMBER;
        }

        boolean isWord(String word) {
            if (token != WORD || next - first != word.length()) {
                return false;
            }
            for (int i = 0; i < word.length(); i++) {
                if (byteAt(first + i) != word.charAt(i)) {
                    return false;
                }
            }
            return true;
        }

        private int byteAt(int place) {
            return place >= 0 && place < size && place < MOST_BYTES ? bytes[place] & 255 : NONE;
        }

        private static boolean isBlank(int sign) {
            return sign == 32 || sign == 10;
        }

        private static boolean isLetter(int sign) {
            return sign >= 'a' && sign <= 'z';
        }

        private static boolean isDigit(int sign) {
            return sign >= '0' && sign <= '9';
        }
    }

    /** The tape's statements, done one by one as they are read. */
    private static final class Text {
        private static final int CAN_NOT_STAND = 1;
        private static final int CAN_NOT_BE = 2;
        private static final int CAN_NOT_BE_DONE = 3;

        private static final int TO_ENTER = 0;
        private static final int TO_CHANGE = 1;
        private static final int TO_GO_ON = 2;
        private static final int TO_FILE = 3;
        private static final int TO_VISIT = 4;
        private static final int TO_STRIKE = 5;
        private static final int FORMS = 6;
        private static final int[] NUMBERS_OF_FORM = {1, 2, 2, 5, 2, 2};
        private static final int MOST_NUMBERS = 5;

        /** Of the latest text; 0 without one. */
        int foundFault;
        private final Tape tape;
        private final int[] numbers = new int[MOST_NUMBERS];
        private boolean found;

        Text(Tape itsTape) {
            tape = itsTape;
        }

        /** How many statements were done, up to the first fault. */
        int perform(Register register) {
            foundFault = 0;
            tape.rewind();
            // A statement takes a byte at least, so the bytes bound the statements.
            for (int done = 0; done <= Tape.MOST_BYTES; done++) {
                tape.readToken();
                if (tape.token == Tape.END || !performOne(register)) {
                    return done;
                }
            }
            return NONE;
        }

        private boolean performOne(Register register) {
            int word = tape.first;
            int form = formOfWord();
            if (form < 0 || form >= FORMS) {
                return refuse(CAN_NOT_STAND, word);
            }
            if (!readNumbers(register, form)) {
                return false;
            }
            if (form == TO_VISIT && !readOutcome()) {
                return false;
            }
            tape.readToken();
            if (tape.token != Tape.SEMICOLON) {
                return refuse(CAN_NOT_STAND, tape.first);
            }
            return doForm(register, form) || refuse(CAN_NOT_BE_DONE, word);
        }

        /** Always false, for the one who asked. */
        private boolean refuse(int kind, int place) {
            foundFault = kind + 8 * place;
            return false;
        }

        private int formOfWord() {
            if (tape.isWord("athlete")) {
                return TO_ENTER;
            }
            if (tape.isWord("set")) {
                return TO_CHANGE;
            }
            if (tape.isWord("at")) {
                return TO_GO_ON;
            }
            if (tape.isWord("file")) {
                return TO_FILE;
            }
            if (tape.isWord("test")) {
                return TO_VISIT;
            }
            return tape.isWord("appeal") ? TO_STRIKE : NONE;
        }

        private boolean readNumbers(Register register, int form) {
            int many = NUMBERS_OF_FORM[form];
            for (int k = 0; k < many && k < MOST_NUMBERS; k++) {
                tape.readToken();
                if (tape.token != Tape.NUMBER) {
                    return refuse(CAN_NOT_STAND, tape.first);
                }
                if (!canBeNumber(register, form, k, tape.value)) {
                    return refuse(CAN_NOT_BE, tape.first);
                }
                numbers[k] = tape.value;
            }
            return true;
        }

        private boolean readOutcome() {
            tape.readToken();
            found = tape.isWord("found");
            return found || tape.isWord("missed") || refuse(CAN_NOT_STAND, tape.first);
        }

        /** Whether v can be the k-th number of its statement by itself, behind those read. */
        private boolean canBeNumber(Register register, int form, int k, int v) {
            switch (form) {
                case TO_ENTER:
                    return canBeRisk(v);
                case TO_CHANGE:
                    return k == 0 ? isSetting(v) : canBeSetting(numbers[0], v);
                case TO_GO_ON:
                    return k == 0 ? canBeDay(v) : canBeHour(v);
                case TO_FILE:
                    return k == 0 ? register.find(v) != null : canBeOfFiling(k, v);
                case TO_VISIT:
                    return k == 0 ? register.find(v) != null : canBePlace(v);
                default:
                    return k == 0 ? register.find(v) != null : isFailure(register, v);
            }
        }

        private boolean canBeOfFiling(int k, int v) {
            switch (k) {
                case 1:
                    return canBeFiledDay(v);
                case 2:
                    return canBeSpan(numbers[1], v);
                case 3:
                    return canBeFiledHour(v);
                default:
                    return canBePlace(v);
            }
        }

        private boolean isFailure(Register register, int v) {
            Sportsman who = register.find(numbers[0]);
            return who != null && who.hasFailure(v);
        }

        private boolean doForm(Register register, int form) {
            switch (form) {
                case TO_ENTER:
                    return register.enter(numbers[0]) >= 0;
                case TO_CHANGE:
                    // A setting that is so already stays so: the document names no fault for it.
                    register.change(numbers[0], numbers[1]);
                    return true;
                case TO_GO_ON:
                    return register.goOn(numbers[0], numbers[1]) != NONE;
                case TO_FILE:
                    return register.enterSpan(
                        numbers[0], numbers[1], numbers[2], numbers[3], numbers[4]) != NONE;
                case TO_VISIT:
                    return register.visit(numbers[0], numbers[1], found) != NONE;
                default:
                    return register.strike(numbers[0], numbers[1]);
            }
        }
    }
}
