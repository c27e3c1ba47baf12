import java.util.Arrays;

/** Hounds that go heel; the document's words in capitals mean here what they mean there. */
public final class HeelHounds {
    public static final int NONE = -1;

    private static final int ABSENT = -2;
    private static final int NO_SUCH_PLACE = -4;

    private static final int WIDE = 16;
    private static final int HIGH = 12;
    private static final int PLACES = 192;
    private static final int CREATURES = 8;
    private static final int HOUNDS = 6;
    private static final int FIELDS = 8;

    private static final int LAST_TIME = 9999;
    private static final int LAST_TIME_ASKED = 20000;
    private static final int NO_TIME_YET = 10000;
    private static final int MOST_MOMENTS = 100;
    private static final int MOST_STEPS = 96;
    private static final int MOST_FADING = 9;
    private static final int FULL_STRENGTH = 99;
    private static final int MOST_OFF = 99;
    private static final int FARTHEST = 26;
    private static final int MOST_FINDS = 10;
    private static final int DRAWS_FROM = 65536;
    private static final int UNTOLD_BYTE = 255;

    private static final int LINE_BYTES = 60;
    private static final int LAND_BYTES = 160;
    private static final int LAW_BYTES = 240;
    private static final int TAPE_BYTES = 260;
    private static final int FED_BYTES = 20;

    private static final int STAY = 0;
    private static final int UP = 1;
    private static final int RIGHT = 2;
    private static final int DOWN = 3;
    private static final int LEFT = 4;
    private static final int WAYS = 5;

    private static final int NOTHING = 0;
    private static final int WATER = 1;
    private static final int FIRST_FIELD = 2;

    private static final int RUNNING = 0;
    private static final int HOME = 1;
    private static final int LOST = 2;
    private static final int UNTOLD = 3;

    private final Tape tape;
    private final Country country;
    private final LineReader lineReader;
    private final LandReader landReader;
    private final LawReader lawReader;
    private final Law rules;
    private final Hunt hunt;
    private final Survey survey;
    private final Pack now;
    private final Pack kept;
    private final Pack trial;
    private boolean hasKept;

    public HeelHounds() {
        tape = new Tape();
        country = new Country();
        lineReader = new LineReader(tape);
        landReader = new LandReader(tape);
        lawReader = new LawReader(tape);
        rules = new Law();
        hunt = new Hunt(country, rules);
        survey = new Survey(country);
        now = new Pack();
        kept = new Pack();
        trial = new Pack();
        hasKept = false;
    }

    public boolean hound(int h, int x, int y) {
        if (!isWithin(h, HOUNDS - 1) || !isOnLand(x, y)) {
            return false;
        }
        now.tell(h, placeOf(x, y));
        return true;
    }

    public boolean fading(int f) {
        if (!isWithin(f, MOST_FADING)) {
            return false;
        }
        country.fade = f;
        return true;
    }

    public boolean time(int t) {
        if (t < now.clock || t > LAST_TIME) {
            return false;
        }
        now.clock = t;
        return true;
    }

    public int feed(int a, int b, int c, int d, int e) {
        if (!tape.hasRoom(FED_BYTES)) {
            return NONE;
        }
        tape.append(a);
        tape.append(b);
        tape.append(c);
        tape.append(d);
        tape.append(e);
        return tape.size;
    }

    public int law(int n) {
        if (!tape.canTell(n, LAW_BYTES)) {
            return NONE;
        }
        tape.open(n);
        lawReader.read();
        tape.empty();
        if (!tape.isSound()) {
            return tape.faultAnswer();
        }
        rules.copyFrom(lawReader.made);
        return rules.told;
    }

    public int line(int c, int x, int y, int from, int n) {
        Course course = country.courseOf(c);
        if (course == null || !isOnLand(x, y) || !isWithin(from, LAST_TIME) || !tape.canTell(n, LINE_BYTES)) {
            return NONE;
        }
        tape.open(n);
        lineReader.read();
        tape.empty();
        if (!tape.isSound()) {
            return tape.faultAnswer();
        }
        course.lay(placeOf(x, y), from, lineReader);
        return course.length;
    }

    public int land(int n) {
        if (!tape.canTell(n, LAND_BYTES)) {
            return NONE;
        }
        tape.open(n);
        landReader.read();
        tape.empty();
        if (!tape.isSound()) {
            return tape.faultAnswer();
        }
        country.ground.copyFrom(landReader.made);
        return country.ground.told;
    }

    public int moments(int n) {
        if (n < 1 || n > MOST_MOMENTS) {
            return NONE;
        }
        for (int i = 0; i < n && now.clock < LAST_TIME; i++) {
            hunt.passMoment(now);
        }
        return Integer.bitCount(now.bitsOf(RUNNING));
    }

    public int tried(int n, int what) {
        if (n < 1 || n > MOST_MOMENTS || !isTriable(what)) {
            return NONE;
        }
        trial.copyFrom(now);
        for (int i = 0; i < n && trial.clock < LAST_TIME; i++) {
            hunt.passMoment(trial);
        }
        if (what <= LOST) {
            return trial.bitsOf(what);
        }
        int h = what % 10;
        switch (what / 10) {
            case 1:
                return trial.placeOfHound(h);
            case 2:
                return trial.timeOf(h);
            default:
                return trial.faultsOf(h);
        }
    }

    public int houndIs(int h, int what) {
        if (!now.isTold(h)) {
            return NONE;
        }
        switch (what) {
            case 0:
                return now.placeOfHound(h);
            case 1:
                return now.timeOf(h);
            case 2:
                return now.faultsOf(h);
            case 3:
                return now.stateOf(h);
            default:
                return NONE;
        }
    }

    public int where(int c, int t) {
        Course course = country.laid(c);
        if (course == null || !isWithin(t, LAST_TIME_ASKED)) {
            return NONE;
        }
        return course.placeAt(t);
    }

    public int freshest(int x, int y, int what) {
        if (!isOnLand(x, y)) {
            return NONE;
        }
        int place = placeOf(x, y);
        switch (what) {
            case 0:
                return country.latestScent(place, now.clock);
            case 1:
                return country.latestCreature(place, now.clock);
            case 2:
                return country.scentsAt(place, now.clock);
            default:
                return NONE;
        }
    }

    public int firstHome(int n, int what) {
        if (n < 1 || n > MOST_MOMENTS || !isWithin(what, 1)) {
            return NONE;
        }
        trial.copyFrom(now);
        for (int passed = 0; passed <= n; passed++) {
            int home = trial.firstOf(HOME);
            if (home != NONE) {
                return what == 0 ? passed : home;
            }
            if (trial.clock >= LAST_TIME) {
                return ABSENT;
            }
            if (passed < n) {
                hunt.passMoment(trial);
            }
        }
        return ABSENT;
    }

    public int two(int c, int d, int what) {
        Course one = country.laid(c);
        Course other = country.laid(d);
        if (one == null || other == null || c == d) {
            return NONE;
        }
        switch (what) {
            case 0:
                return survey.crossings(one, other);
            case 1:
                return survey.firstWithin(one, other, 0);
            case 2:
                return survey.nearest(one, other);
            case 3:
                return survey.firstWithin(one, other, survey.nearest(one, other));
            default:
                return NONE;
        }
    }

    public int together(int c, int d, int far) {
        Course one = country.laid(c);
        Course other = country.laid(d);
        if (one == null || other == null || c == d || !isWithin(far, FARTHEST)) {
            return NONE;
        }
        return survey.timesWithin(one, other, far);
    }

    public int crowd(int t, int what) {
        if (!isWithin(t, LAST_TIME_ASKED) || !isWithin(what, 1)) {
            return NONE;
        }
        int place = survey.fullestPlace(t);
        if (what == 0) {
            return place;
        }
        return country.creaturesAt(place, t);
    }

    public int stayed(int c, int what) {
        Course course = country.laid(c);
        if (course == null) {
            return NONE;
        }
        switch (what) {
            case 0:
                return survey.longestStay(course);
            case 1:
                return course.timesAt(survey.longestStay(course));
            case 2:
                return survey.placesComeBackTo(course);
            default:
                return NONE;
        }
    }

    public int unlooped(int c, int what) {
        Course course = country.laid(c);
        if (course == null || !isWithin(what, MOST_STEPS) && what != 100) {
            return NONE;
        }
        int left = survey.unloop(course);
        if (what == 100) {
            return left;
        }
        return what < left ? survey.rowAt(what) : NO_SUCH_PLACE;
    }

    public int charges(int c, int what) {
        Course course = country.laid(c);
        if (course == null) {
            return NONE;
        }
        switch (what) {
            case 0:
                return survey.paidInAll(course);
            case 1:
                return survey.dearestField(course);
            case 2:
                return survey.paidFor(course, survey.dearestField(course));
            default:
                return NONE;
        }
    }

    public int round(int from, int to) {
        if (!isPlace(from) || !isPlace(to)) {
            return NONE;
        }
        return survey.stepsByLand(from, to);
    }

    public int cast(int h) {
        if (!now.isTold(h)) {
            return NONE;
        }
        return country.nearestScent(now.placeOfHound(h), now.timeOf(h), now.clock);
    }

    public int huntable(int s) {
        if (s < 1 || s > FULL_STRENGTH) {
            return NONE;
        }
        return survey.placesSmelling(s, now.clock);
    }

    public int couldBe(int n, int off) {
        if (n < 1 || n > MOST_FINDS || !isWithin(off, MOST_OFF) || !tape.has(3 * n)) {
            return NONE;
        }
        int bits = 0;
        for (int i = 0; i < n; i++) {
            if (!isPlace(tape.byteAt(3 * i))) {
                bits = ABSENT;
            }
        }
        for (int c = 0; c < CREATURES && bits != ABSENT; c++) {
            if (fitsFinds(c, n, off)) {
                bits |= 1 << c;
            }
        }
        tape.empty();
        return bits;
    }

    public int heldIn(int c) {
        Course course = country.laid(c);
        return course == null ? NONE : survey.placesShutIn(course);
    }

    public int lineIs(int c, int what) {
        Course course = country.laid(c);
        if (course == null) {
            return NONE;
        }
        switch (what) {
            case 0:
                return course.length;
            case 1:
                return course.turns();
            case 2:
                return course.longestStraight();
            case 3:
                return course.period();
            case 4:
                return course.from;
            case 5:
                return survey.placesOn(course);
            case 6:
                return course.last();
            case 7:
                return course.placeAt(course.last());
            default:
                return NONE;
        }
    }

    public int landAt(int x, int y) {
        return isOnLand(x, y) ? country.ground.kindAt(placeOf(x, y)) : NONE;
    }

    public boolean seed(int x) {
        if (!isWithin(x, DRAWS_FROM - 1)) {
            return false;
        }
        now.drawn = x;
        return true;
    }

    public int keep() {
        kept.copyFrom(now);
        hasKept = true;
        return now.clock;
    }

    public boolean undo() {
        if (!hasKept) {
            return false;
        }
        now.copyFrom(kept);
        return true;
    }

    public int check(int n) {
        if (!isWithin(n, HOUNDS) || !tape.has(n)) {
            return ABSENT;
        }
        int wrong = NONE;
        for (int h = 0; h < n && wrong == NONE; h++) {
            int due = now.isTold(h) ? now.faultsOf(h) : UNTOLD_BYTE;
            if (tape.byteAt(h) != due) {
                wrong = h;
            }
        }
        tape.empty();
        return wrong;
    }

    public int count(int what) {
        switch (what) {
            case 0:
                return now.clock;
            case 1:
                return now.toldBits();
            case 2:
                return now.bitsOf(RUNNING);
            case 3:
                return country.laidBits();
            case 4:
                return country.fade;
            case 5:
                return country.ground.told;
            case 6:
                return rules.told;
            case 7:
                return tape.size;
            case 8:
                return now.drawn;
            default:
                return NONE;
        }
    }

    private boolean isTriable(int what) {
        if (what >= 0 && what <= LOST) {
            return true;
        }
        return what >= 10 && what < 40 && now.isTold(what % 10);
    }

    private boolean fitsFinds(int c, int n, int off) {
        Course course = country.laid(c);
        if (course == null) {
            return false;
        }
        for (int i = 0; i < n; i++) {
            int time = tape.byteAt(3 * i + 1) + 256 * tape.byteAt(3 * i + 2);
            if (!course.wasAt(tape.byteAt(3 * i), time - off, time + off)) {
                return false;
            }
        }
        return true;
    }

    private static boolean isWithin(int number, int most) {
        return number >= 0 && number <= most;
    }

    private static boolean isPlace(int place) {
        return place >= 0 && place < PLACES;
    }

    private static boolean isOnLand(int x, int y) {
        return x >= 0 && x < WIDE && y >= 0 && y < HIGH;
    }

    private static int placeOf(int x, int y) {
        return WIDE * y + x;
    }

    private static int across(int place, int other) {
        return Math.abs((place & 15) - (other & 15));
    }

    private static int along(int place, int other) {
        return Math.abs((place >> 4) - (other >> 4));
    }

    /** The PLACE one step that way, NONE off THE LAND. */
    private static int beside(int place, int way) {
        int x = place & 15;
        int y = place >> 4;
        switch (way) {
            case UP:
                y--;
                break;
            case RIGHT:
                x++;
                break;
            case DOWN:
                y++;
                break;
            case LEFT:
                x--;
                break;
            default:
                break;
        }
        return isOnLand(x, y) ? placeOf(x, y) : NONE;
    }

    /** By which way one comes in at most one step from a PLACE to the other; NONE if by none. */
    private static int wayTo(int place, int other) {
        switch (other - place) {
            case 0:
                return STAY;
            case -WIDE:
                return UP;
            case 1:
                return (place & 15) < WIDE - 1 ? RIGHT : NONE;
            case WIDE:
                return DOWN;
            case -1:
                return (place & 15) > 0 ? LEFT : NONE;
            default:
                return NONE;
        }
    }

    /** The tape, and the reading of its first bytes from the left up to the first FAULT. */
    private static final class Tape {
        private static final int END = -1;
        private static final int CANT_STAND = 1;
        private static final int DIGIT_TOO_MANY = 2;
        private static final int OUT_OF_BOUNDS = 3;
        private static final int ONE_TOO_MANY = 4;
        private static final int TOO_DEEP = 5;
        private static final int STEPS_TOO_MANY = 6;

        private final int[] bytes = new int[TAPE_BYTES];
        private int size = 0;
        private int end = 0;
        private int place = 0;
        private int fault = 0;
        private int faultPlace = 0;

        private boolean hasRoom(int more) {
            return size + more <= bytes.length;
        }

        private void append(int word) {
            for (int shift = 24; shift >= 0 && size < bytes.length; shift -= 8) {
                bytes[size] = word >> shift & 255;
                size++;
            }
        }

        private boolean has(int n) {
            return n <= size;
        }

        private boolean canTell(int n, int most) {
            return n >= 1 && n <= most && has(n);
        }

        private int byteAt(int i) {
            return i >= 0 && i < bytes.length ? bytes[i] : 0;
        }

        private void empty() {
            size = 0;
        }

        private void open(int n) {
            end = n;
            place = 0;
            fault = 0;
            faultPlace = 0;
        }

        /** Behind a FAULT nothing more is read, so that readers need not ask after each sign. */
        private int sign() {
            return fault == 0 && place < end && place < bytes.length ? bytes[place] : END;
        }

        private boolean isAt(int sign) {
            return sign() == sign;
        }

        private static boolean isDigit(int sign) {
            return sign >= '0' && sign <= '9';
        }

        private void pass() {
            if (place < end) {
                place++;
            }
        }

        private void expect(int sign) {
            if (sign() == sign) {
                pass();
            } else {
                failHere(CANT_STAND);
            }
        }

        /** A number of at least one digit; a number's bounds are asked only behind its last digit. */
        private int number(int mostDigits) {
            if (!isDigit(sign())) {
                failHere(CANT_STAND);
                return 0;
            }
            int value = 0;
            for (int i = 0; i < mostDigits && isDigit(sign()); i++) {
                value = 10 * value + sign() - '0';
                pass();
            }
            if (isDigit(sign())) {
                failHere(DIGIT_TOO_MANY);
            }
            return value;
        }

        /** Not by failAt: readers of THE LAW come here with seven calls open, and eight are the most. */
        private void failHere(int number) {
            if (fault == 0) {
                fault = number;
                faultPlace = place;
            }
        }

        private void failAt(int number, int where) {
            if (fault == 0) {
                fault = number;
                faultPlace = where;
            }
        }

        private boolean isSound() {
            return fault == 0;
        }

        private int faultAnswer() {
            return -1000 * fault - faultPlace;
        }
    }

    /** Writes the STEPS of a LINE out, one by one, as it reads them. */
    private static final class LineReader {
        private static final int MOST_OPEN = 2;

        private final Tape tape;
        private final int[] steps = new int[MOST_STEPS];
        private int length = 0;

        private LineReader(Tape tape) {
            this.tape = tape;
        }

        private void read() {
            length = 0;
            readSteps(0);
        }

        private void readSteps(int open) {
            int closing = open == 0 ? Tape.END : ')';
            for (int i = 0; i <= LINE_BYTES; i++) {
                readOne(open);
                if (!tape.isSound() || tape.isAt(closing)) {
                    return;
                }
            }
        }

        private void readOne(int open) {
            int start = tape.place;
            int times = 1;
            if (tape.sign() >= '2' && tape.sign() <= '9') {
                times = tape.sign() - '0';
                tape.pass();
            }
            int before = length;
            if (tape.isAt('(')) {
                readRound(open);
            } else {
                readStep(start);
            }
            if (tape.isSound()) {
                repeat(before, times, start);
            }
        }

        private void readRound(int open) {
            if (open >= MOST_OPEN) {
                tape.failHere(Tape.TOO_DEEP);
                return;
            }
            tape.pass();
            readSteps(open + 1);
            if (tape.isSound()) {
                tape.pass();
            }
        }

        private void readStep(int start) {
            int step = wayOf(tape.sign());
            if (step == NONE) {
                tape.failHere(Tape.CANT_STAND);
            } else if (length >= steps.length) {
                tape.failAt(Tape.STEPS_TOO_MANY, start);
            } else {
                steps[length] = step;
                length++;
                tape.pass();
            }
        }

        /** What stands since a length is there once already; so often it is to be there in all. */
        private void repeat(int before, int times, int start) {
            int once = length - before;
            if (before + once * times > steps.length) {
                tape.failAt(Tape.STEPS_TOO_MANY, start);
                return;
            }
            for (int i = 1; i < times; i++) {
                System.arraycopy(steps, before, steps, before + i * once, once);
            }
            length = before + once * times;
        }

        private static int wayOf(int sign) {
            switch (sign) {
                case '.':
                    return STAY;
                case 'u':
                    return UP;
                case 'r':
                    return RIGHT;
                case 'd':
                    return DOWN;
                case 'l':
                    return LEFT;
                default:
                    return NONE;
            }
        }
    }

    /** The LINE of one CREATURE, with the PLACES it leads by. */
    private static final class Course {
        private final int[] steps = new int[MOST_STEPS];
        private final int[] places = new int[MOST_STEPS + 1];
        private boolean isLaid = false;
        private int from = 0;
        private int length = 0;

        private void lay(int beginning, int time, LineReader told) {
            isLaid = true;
            from = time;
            length = Math.min(told.length, steps.length);
            places[0] = beginning;
            int here = beginning;
            for (int i = 0; i < length; i++) {
                steps[i] = told.steps[i];
                int next = beside(here, steps[i]);
                if (next != NONE) {
                    here = next;
                }
                places[i + 1] = here;
            }
        }

        private int last() {
            return from + length;
        }

        private int placeAt(int time) {
            int i = time - from;
            return i >= 0 && i <= length && i < places.length ? places[i] : ABSENT;
        }

        private int timesAt(int place) {
            int times = 0;
            for (int i = 0; i <= length && i < places.length; i++) {
                if (places[i] == place) {
                    times++;
                }
            }
            return times;
        }

        private boolean wasAt(int place, int earliest, int latest) {
            int until = Math.min(latest, last());
            for (int time = Math.max(earliest, from); time <= until; time++) {
                if (placeAt(time) == place) {
                    return true;
                }
            }
            return false;
        }

        private int turns() {
            int turns = 0;
            int heading = STAY;
            for (int i = 0; i < length && i < steps.length; i++) {
                if (steps[i] != STAY) {
                    if (heading != STAY && steps[i] != heading) {
                        turns++;
                    }
                    heading = steps[i];
                }
            }
            return turns;
        }

        private int longestStraight() {
            int longest = 0;
            int straight = 0;
            int heading = STAY;
            for (int i = 0; i < length && i < steps.length; i++) {
                if (steps[i] != STAY) {
                    straight = steps[i] == heading ? straight + 1 : 1;
                    heading = steps[i];
                    longest = Math.max(longest, straight);
                }
            }
            return longest;
        }

        private int period() {
            for (int period = 1; period < length; period++) {
                if (repeatsAfter(period)) {
                    return period;
                }
            }
            return length;
        }

        private boolean repeatsAfter(int period) {
            for (int i = Math.max(period, 0); i < length && i < steps.length; i++) {
                if (steps[i] != steps[i - period]) {
                    return false;
                }
            }
            return true;
        }
    }

    /** What lies on top at each PLACE. */
    private static final class Land {
        private final int[] kinds = new int[PLACES];
        private final int[] pence = new int[PLACES];
        private int told = 0;

        private void clear() {
            Arrays.fill(kinds, NOTHING);
            Arrays.fill(pence, 0);
            told = 0;
        }

        private void copyFrom(Land other) {
            System.arraycopy(other.kinds, 0, kinds, 0, PLACES);
            System.arraycopy(other.pence, 0, pence, 0, PLACES);
            told = other.told;
        }

        private void cover(int place, int kind, int charge) {
            if (isPlace(place)) {
                kinds[place] = kind;
                pence[place] = charge;
            }
        }

        private int kindAt(int place) {
            return isPlace(place) ? kinds[place] : NOTHING;
        }

        private int penceAt(int place) {
            return isPlace(place) ? pence[place] : 0;
        }

        private boolean isWater(int place) {
            return kindAt(place) == WATER;
        }
    }

    /** Reads LAND into one of its own, so that a FAULT leaves the one before as it was. */
    private static final class LandReader {
        private static final int MOST_LINES = 12;
        private static final int DIGITS = 2;

        private final Tape tape;
        private final Land made = new Land();

        private LandReader(Tape tape) {
            this.tape = tape;
        }

        private void read() {
            made.clear();
            for (int i = 0; i <= MOST_LINES; i++) {
                readOne();
                if (tape.isAt(Tape.END)) {
                    return;
                }
                tape.expect(';');
            }
        }

        private void readOne() {
            int kind = kindOf(tape.sign());
            if (kind == NOTHING) {
                tape.failHere(Tape.CANT_STAND);
            } else if (made.told >= MOST_LINES) {
                tape.failHere(Tape.ONE_TOO_MANY);
            } else {
                tape.pass();
                made.told++;
                readPlaces(kind);
            }
        }

        private void readPlaces(int kind) {
            int x = readBounded(0, WIDE - 1);
            tape.expect(',');
            int y = readBounded(0, HIGH - 1);
            tape.expect(':');
            int wide = readBounded(1, WIDE - x);
            tape.expect('x');
            int high = readBounded(1, HIGH - y);
            int charge = kind == WATER ? 0 : readCharge();
            if (!tape.isSound()) {
                return;
            }
            for (int row = 0; row < high; row++) {
                for (int column = 0; column < wide; column++) {
                    made.cover(placeOf(x + column, y + row), kind, charge);
                }
            }
        }

        private int readBounded(int least, int most) {
            int start = tape.place;
            int number = tape.number(DIGITS);
            if (number < least || number > most) {
                tape.failAt(Tape.OUT_OF_BOUNDS, start);
            }
            return number;
        }

        private int readCharge() {
            tape.expect('=');
            return tape.number(DIGITS);
        }

        private static int kindOf(int sign) {
            if (sign == '~') {
                return WATER;
            }
            return sign >= 'a' && sign <= 'h' ? FIRST_FIELD + sign - 'a' : NOTHING;
        }
    }

    /** THE LAW, as codes for a stack; jumps in them lead only onward, so each code ends. */
    private static final class Law {
        private static final int MOST_RULES = 16;
        private static final int MOST_LIKING = 9999;
        private static final int MOST_TENTHS = 10;
        private static final int LETTERS = 8;
        // More than six brackets in one another, with two numbers waiting in each, can need.
        private static final int STACK = 32;

        private static final int LAST = 0;
        private static final int NUMBER = 1;
        private static final int LETTER = 2;
        private static final int NOT = 3;
        private static final int AND = 4;
        private static final int OR = 5;
        private static final int PLUS = '+';
        private static final int MINUS = '-';
        private static final int TIMES = '*';
        private static final int DIVIDED = '/';
        private static final int REMAINDER = '%';
        private static final int LESS = '<';
        private static final int MORE = '>';
        private static final int LIKE = '=';

        private static final int H = 0;
        private static final int C = 1;
        private static final int A = 2;
        private static final int S = 3;
        private static final int G = 4;
        private static final int F = 5;
        private static final int N = 6;
        private static final int T = 7;

        private final int[] kinds = new int[MOST_RULES];
        private final int[] worths = new int[MOST_RULES];
        private final int[] tests = new int[MOST_RULES];
        private int told = 0;
        private final int[] signs = new int[LAW_BYTES];
        private final int[] with = new int[LAW_BYTES];
        private int size = 0;
        private final int[] values = new int[LETTERS];
        private final int[] stack = new int[STACK];

        private void clear() {
            told = 0;
            size = 0;
        }

        private void copyFrom(Law other) {
            told = other.told;
            size = other.size;
            System.arraycopy(other.kinds, 0, kinds, 0, MOST_RULES);
            System.arraycopy(other.worths, 0, worths, 0, MOST_RULES);
            System.arraycopy(other.tests, 0, tests, 0, MOST_RULES);
            System.arraycopy(other.signs, 0, signs, 0, LAW_BYTES);
            System.arraycopy(other.with, 0, with, 0, LAW_BYTES);
        }

        private void beginWorth(int kind) {
            if (told < MOST_RULES) {
                kinds[told] = kind;
                worths[told] = size;
            }
        }

        private void beginTest() {
            if (told < MOST_RULES) {
                tests[told] = size;
            }
        }

        private void endRule() {
            if (told < MOST_RULES) {
                told++;
            }
        }

        /** Each sign of the text adds one code at most, so there is room for all. */
        private int add(int sign, int number) {
            if (size >= LAW_BYTES) {
                return NONE;
            }
            signs[size] = sign;
            with[size] = number;
            size++;
            return size - 1;
        }

        /** Jumps that wait for their end hold the one ahead of them; from now on they lead here. */
        private void settle(int lastJump) {
            int jump = lastJump;
            for (int i = 0; i < LAW_BYTES && jump >= 0 && jump < LAW_BYTES; i++) {
                int ahead = with[jump];
                with[jump] = size;
                jump = ahead;
            }
        }

        private void put(int letter, int value) {
            if (letter >= 0 && letter < LETTERS) {
                values[letter] = value;
            }
        }

        private int worth(int kind, int most) {
            for (int rule = 0; rule < told && rule < MOST_RULES; rule++) {
                if (kinds[rule] == kind && run(tests[rule]) != 0) {
                    return Math.max(0, Math.min(most, run(worths[rule])));
                }
            }
            return 0;
        }

        private boolean givesUp() {
            for (int rule = 0; rule < told && rule < MOST_RULES; rule++) {
                if (kinds[rule] == 'x' && run(tests[rule]) != 0) {
                    return true;
                }
            }
            return false;
        }

        /** What a code comes to; where it divides by 0 that is 0: no C holds by it, an E is it. */
        private int run(int start) {
            int high = 0;
            int at = start;
            for (int i = 0; i < LAW_BYTES && at >= 0 && at < size && at < LAW_BYTES; i++) {
                int sign = signs[at];
                int number = with[at];
                at++;
                if (sign == LAST) {
                    break;
                }
                if (sign == NUMBER || sign == LETTER) {
                    if (high >= STACK) {
                        return 0;
                    }
                    stack[high] = sign == NUMBER ? number : valueOf(number);
                    high++;
                    continue;
                }
                if (high < 1 || high > STACK) {
                    return 0;
                }
                int top = stack[high - 1];
                if (sign == NOT) {
                    stack[high - 1] = 1 - top;
                } else if (sign == AND && top == 0 || sign == OR && top != 0) {
                    at = number;
                } else if (sign == AND || sign == OR) {
                    high--;
                } else if (high < 2 || top == 0 && (sign == DIVIDED || sign == REMAINDER)) {
                    return 0;
                } else {
                    high--;
                    stack[high - 1] = combined(sign, stack[high - 1], top);
                }
            }
            return high > 0 ? stack[0] : 0;
        }

        private int valueOf(int letter) {
            return letter >= 0 && letter < LETTERS ? values[letter] : 0;
        }

        private static int combined(int sign, int left, int right) {
            switch (sign) {
                case PLUS:
                    return left + right;
                case MINUS:
                    return left - right;
                case TIMES:
                    return left * right;
                case DIVIDED:
                    return right == 0 ? 0 : left / right;
                case REMAINDER:
                    return right == 0 ? 0 : left % right;
                case LESS:
                    return left < right ? 1 : 0;
                case MORE:
                    return left > right ? 1 : 0;
                default:
                    return left == right ? 1 : 0;
            }
        }
    }

    /** Reads THE LAW into one of its own, so that a FAULT leaves the one before as it was. */
    private static final class LawReader {
        private static final int MOST_OPEN = 6;
        private static final int DIGITS = 5;

        private final Tape tape;
        private final Law made = new Law();

        private LawReader(Tape tape) {
            this.tape = tape;
        }

        private void read() {
            made.clear();
            for (int i = 0; i <= Law.MOST_RULES; i++) {
                readRule();
                if (tape.isAt(Tape.END)) {
                    return;
                }
                tape.expect(';');
            }
        }

        private void readRule() {
            int kind = tape.sign();
            if (kind != 'e' && kind != 'r' && kind != 'x') {
                tape.failHere(Tape.CANT_STAND);
                return;
            }
            if (made.told >= Law.MOST_RULES) {
                tape.failHere(Tape.ONE_TOO_MANY);
                return;
            }
            tape.pass();
            made.beginWorth(kind);
            if (kind != 'x') {
                readSum(0);
                made.add(Law.LAST, 0);
            }
            made.beginTest();
            tape.expect('(');
            readChoice(1);
            tape.expect(')');
            made.add(Law.LAST, 0);
            made.endRule();
        }

        private void readChoice(int open) {
            int jump = NONE;
            readPart(open);
            for (int i = 0; i < LAW_BYTES && tape.isAt('|'); i++) {
                tape.pass();
                jump = made.add(Law.OR, jump);
                readPart(open);
            }
            made.settle(jump);
        }

        private void readPart(int open) {
            int jump = NONE;
            readTest(open);
            for (int i = 0; i < LAW_BYTES && tape.isAt('&'); i++) {
                tape.pass();
                jump = made.add(Law.AND, jump);
                readTest(open);
            }
            made.settle(jump);
        }

        private void readTest(int open) {
            if (tape.isAt('!')) {
                if (opens(open)) {
                    readTest(open + 1);
                    made.add(Law.NOT, 0);
                }
            } else if (tape.isAt('(')) {
                if (opens(open)) {
                    readChoice(open + 1);
                    tape.expect(')');
                }
            } else {
                readComparison(open);
            }
        }

        private void readComparison(int open) {
            readSum(open);
            int sign = tape.sign();
            if (sign != Law.LESS && sign != Law.MORE && sign != Law.LIKE) {
                tape.failHere(Tape.CANT_STAND);
                return;
            }
            tape.pass();
            readSum(open);
            made.add(sign, 0);
        }

        private void readSum(int open) {
            readTerm(open);
            for (int i = 0; i < LAW_BYTES && joinsTerms(tape.sign()); i++) {
                int sign = tape.sign();
                tape.pass();
                readTerm(open);
                made.add(sign, 0);
            }
        }

        private void readTerm(int open) {
            readFactor(open);
            for (int i = 0; i < LAW_BYTES && joinsFactors(tape.sign()); i++) {
                int sign = tape.sign();
                tape.pass();
                readFactor(open);
                made.add(sign, 0);
            }
        }

        private static boolean joinsTerms(int sign) {
            return sign == Law.PLUS || sign == Law.MINUS;
        }

        private static boolean joinsFactors(int sign) {
            return sign == Law.TIMES || sign == Law.DIVIDED || sign == Law.REMAINDER;
        }

        private void readFactor(int open) {
            if (tape.isAt('[')) {
                if (opens(open)) {
                    readSum(open + 1);
                    tape.expect(']');
                }
                return;
            }
            int letter = letterOf(tape.sign());
            if (letter == NONE) {
                made.add(Law.NUMBER, tape.number(DIGITS));
            } else {
                made.add(Law.LETTER, letter);
                tape.pass();
            }
        }

        private boolean opens(int open) {
            if (open >= MOST_OPEN) {
                tape.failHere(Tape.TOO_DEEP);
                return false;
            }
            tape.pass();
            return true;
        }

        private static int letterOf(int sign) {
            switch (sign) {
                case 'h':
                    return Law.H;
                case 'c':
                    return Law.C;
                case 'a':
                    return Law.A;
                case 's':
                    return Law.S;
                case 'g':
                    return Law.G;
                case 'f':
                    return Law.F;
                case 'n':
                    return Law.N;
                case 't':
                    return Law.T;
                default:
                    return NONE;
            }
        }
    }

    /** All that is KEPT and UNDONE: HOUNDS, THE TIME and X. */
    private static final class Pack {
        private static final int MOST_FAULTS = 9;

        private final int[] places = new int[HOUNDS];
        private final int[] times = new int[HOUNDS];
        private final int[] faults = new int[HOUNDS];
        private final int[] states = new int[HOUNDS];
        private int clock = 0;
        private int drawn = 1;

        private Pack() {
            Arrays.fill(states, UNTOLD);
        }

        private void copyFrom(Pack other) {
            System.arraycopy(other.places, 0, places, 0, HOUNDS);
            System.arraycopy(other.times, 0, times, 0, HOUNDS);
            System.arraycopy(other.faults, 0, faults, 0, HOUNDS);
            System.arraycopy(other.states, 0, states, 0, HOUNDS);
            clock = other.clock;
            drawn = other.drawn;
        }

        private void tell(int h, int place) {
            if (isWithin(h, HOUNDS - 1)) {
                places[h] = place;
                times[h] = NO_TIME_YET;
                faults[h] = 0;
                states[h] = RUNNING;
            }
        }

        private void move(int h, int place, int time, int state) {
            if (isWithin(h, HOUNDS - 1)) {
                places[h] = place;
                times[h] = time;
                states[h] = state;
            }
        }

        private void lose(int h) {
            if (isWithin(h, HOUNDS - 1)) {
                states[h] = LOST;
            }
        }

        private void addFault(int h) {
            if (isWithin(h, HOUNDS - 1)) {
                faults[h]++;
                if (faults[h] >= MOST_FAULTS) {
                    states[h] = LOST;
                }
            }
        }

        private boolean isTold(int h) {
            return stateOf(h) != UNTOLD;
        }

        private int placeOfHound(int h) {
            return isWithin(h, HOUNDS - 1) ? places[h] : 0;
        }

        private int timeOf(int h) {
            return isWithin(h, HOUNDS - 1) ? times[h] : NO_TIME_YET;
        }

        private int faultsOf(int h) {
            return isWithin(h, HOUNDS - 1) ? faults[h] : 0;
        }

        private int stateOf(int h) {
            return isWithin(h, HOUNDS - 1) ? states[h] : UNTOLD;
        }

        private int bitsOf(int state) {
            int bits = 0;
            for (int h = 0; h < HOUNDS; h++) {
                if (states[h] == state) {
                    bits |= 1 << h;
                }
            }
            return bits;
        }

        private int firstOf(int state) {
            for (int h = 0; h < HOUNDS; h++) {
                if (states[h] == state) {
                    return h;
                }
            }
            return NONE;
        }

        private int toldBits() {
            return bitsOf(RUNNING) | bitsOf(HOME) | bitsOf(LOST);
        }

        private int houndsAt(int place) {
            int hounds = 0;
            for (int h = 0; h < HOUNDS; h++) {
                if (states[h] != UNTOLD && places[h] == place) {
                    hounds++;
                }
            }
            return hounds;
        }

        private int draw() {
            drawn = (25173 * drawn + 13849) % DRAWS_FROM;
            return drawn % 10;
        }
    }

    /** The LINES of all CREATURES and the LAND below them: the SCENTS that they leave. */
    private static final class Country {
        private final Course[] courses = new Course[CREATURES];
        private final Land ground = new Land();
        private int fade = 1;

        private Country() {
            for (int c = 0; c < CREATURES; c++) {
                courses[c] = new Course();
            }
        }

        /** A CREATURE's, laid or not; null: no such CREATURE. */
        private Course courseOf(int c) {
            return isWithin(c, CREATURES - 1) ? courses[c] : null;
        }

        /** A CREATURE's LINE; null: it has none. */
        private Course laid(int c) {
            Course course = courseOf(c);
            return course != null && course.isLaid ? course : null;
        }

        private int laidBits() {
            int bits = 0;
            for (int c = 0; c < CREATURES; c++) {
                if (laid(c) != null) {
                    bits |= 1 << c;
                }
            }
            return bits;
        }

        private int creaturesAt(int place, int time) {
            int creatures = 0;
            for (int c = 0; c < CREATURES && isPlace(place); c++) {
                Course course = laid(c);
                if (course != null && course.placeAt(time) == place) {
                    creatures++;
                }
            }
            return creatures;
        }

        private int strength(int time, int clock) {
            return time > clock ? 0 : FULL_STRENGTH - (clock - time) * fade;
        }

        private boolean smells(int place, int time, int clock) {
            return isPlace(place) && !ground.isWater(place) && strength(time, clock) > 0;
        }

        /** The latest time of a CREATURE's SCENT at a PLACE; ABSENT: it has left none there. */
        private int latestOf(int c, int place, int clock) {
            Course course = laid(c);
            if (course == null) {
                return ABSENT;
            }
            for (int time = Math.min(course.last(), clock); time >= course.from; time--) {
                if (course.placeAt(time) == place && smells(place, time, clock)) {
                    return time;
                }
            }
            return ABSENT;
        }

        private int latestScent(int place, int clock) {
            int latest = ABSENT;
            for (int c = 0; c < CREATURES; c++) {
                latest = Math.max(latest, latestOf(c, place, clock));
            }
            return latest;
        }

        private int latestCreature(int place, int clock) {
            int latest = latestScent(place, clock);
            for (int c = 0; c < CREATURES && latest != ABSENT; c++) {
                if (latestOf(c, place, clock) == latest) {
                    return c;
                }
            }
            return ABSENT;
        }

        private int scentsAt(int place, int clock) {
            int scents = 0;
            for (int c = 0; c < CREATURES; c++) {
                Course course = laid(c);
                if (course == null) {
                    continue;
                }
                for (int time = course.from; time <= course.last(); time++) {
                    if (course.placeAt(time) == place && smells(place, time, clock)) {
                        scents++;
                    }
                }
            }
            return scents;
        }

        private int nearestScent(int place, int before, int clock) {
            int nearest = ABSENT;
            for (int c = 0; c < CREATURES; c++) {
                Course course = laid(c);
                if (course == null) {
                    continue;
                }
                for (int time = course.from; time <= course.last() && time < before; time++) {
                    int there = course.placeAt(time);
                    int far = Math.max(across(place, there), along(place, there));
                    if (smells(there, time, clock) && (nearest == ABSENT || far < nearest)) {
                        nearest = far;
                    }
                }
            }
            return nearest;
        }
    }

    /** Lets MOMENTS go by over a Pack, the one that is or one that is only TRIED. */
    private static final class Hunt {
        private final Country country;
        private final Law law;
        private int bestWorth = 0;
        private int bestTime = NONE;
        private int bestWay = STAY;
        private int bestCreature = NONE;

        private Hunt(Country country, Law law) {
            this.country = country;
            this.law = law;
        }

        private void passMoment(Pack pack) {
            for (int h = 0; h < HOUNDS; h++) {
                if (pack.stateOf(h) == RUNNING) {
                    takeTurn(pack, h);
                }
            }
            pack.clock++;
        }

        private void takeTurn(Pack pack, int h) {
            law.put(Law.H, h);
            law.put(Law.F, pack.faultsOf(h));
            law.put(Law.T, pack.clock % 100);
            law.put(Law.N, pack.houndsAt(pack.placeOfHound(h)));
            law.put(Law.C, 0);
            law.put(Law.A, 0);
            law.put(Law.S, 0);
            law.put(Law.G, 0);
            if (law.givesUp()) {
                pack.lose(h);
                return;
            }
            int tenths = law.worth('r', Law.MOST_TENTHS);
            if (pack.draw() < tenths || !follow(pack, h)) {
                pack.addFault(h);
            }
        }

        private boolean follow(Pack pack, int h) {
            bestWorth = 0;
            for (int c = 0; c < CREATURES; c++) {
                weigh(pack, h, c);
            }
            Course course = country.laid(bestCreature);
            if (bestWorth <= 0 || course == null) {
                return false;
            }
            int state = bestTime == course.from ? HOME : RUNNING;
            pack.move(h, course.placeAt(bestTime), bestTime, state);
            return true;
        }

        /** CREATURES are weighed by their numbers, so of SCENTS alike in all the lowest one's stays. */
        private void weigh(Pack pack, int h, int c) {
            Course course = country.laid(c);
            if (course == null) {
                return;
            }
            int own = pack.placeOfHound(h);
            int latest = Math.min(Math.min(course.last(), pack.clock), pack.timeOf(h) - 1);
            for (int time = latest; time >= course.from; time--) {
                int strength = country.strength(time, pack.clock);
                if (strength <= 0) {
                    // All that is older is no stronger.
                    return;
                }
                int place = course.placeAt(time);
                int way = wayTo(own, place);
                if (way == NONE || country.ground.isWater(place)) {
                    continue;
                }
                law.put(Law.C, c);
                law.put(Law.A, pack.clock - time);
                law.put(Law.S, strength);
                law.put(Law.G, pack.timeOf(h) - time);
                law.put(Law.N, pack.houndsAt(place));
                int worth = law.worth('e', Law.MOST_LIKING);
                if (isBetter(worth, time, way)) {
                    bestWorth = worth;
                    bestTime = time;
                    bestWay = way;
                    bestCreature = c;
                }
            }
        }

        private boolean isBetter(int worth, int time, int way) {
            if (worth != bestWorth || worth == 0) {
                return worth > bestWorth;
            }
            return time > bestTime || time == bestTime && way < bestWay;
        }
    }

    /** Answers about LINES as they lie and ways by land, with rows that are used again. */
    private static final class Survey {
        private static final int BLOCKED = -1;

        private final Country country;
        private final int[] marks = new int[PLACES];
        private final int[] row = new int[PLACES];

        private Survey(Country country) {
            this.country = country;
        }

        private int crossings(Course one, Course other) {
            Arrays.fill(marks, 0);
            for (int time = one.from; time <= one.last(); time++) {
                markPlace(one.placeAt(time), 1);
            }
            int crossings = 0;
            for (int time = other.from; time <= other.last(); time++) {
                int place = other.placeAt(time);
                if (markAt(place) == 1) {
                    crossings++;
                    markPlace(place, 2);
                }
            }
            return crossings;
        }

        private int nearest(Course one, Course other) {
            int nearest = ABSENT;
            int until = Math.min(one.last(), other.last());
            for (int time = Math.max(one.from, other.from); time <= until; time++) {
                int apart = stepsApart(one, other, time);
                if (nearest == ABSENT || apart < nearest) {
                    nearest = apart;
                }
            }
            return nearest;
        }

        private int firstWithin(Course one, Course other, int far) {
            int until = Math.min(one.last(), other.last());
            for (int time = Math.max(one.from, other.from); time <= until; time++) {
                if (stepsApart(one, other, time) <= far) {
                    return time;
                }
            }
            return ABSENT;
        }

        private int timesWithin(Course one, Course other, int far) {
            int times = 0;
            int until = Math.min(one.last(), other.last());
            for (int time = Math.max(one.from, other.from); time <= until; time++) {
                if (stepsApart(one, other, time) <= far) {
                    times++;
                }
            }
            return times;
        }

        private int fullestPlace(int time) {
            int fullest = ABSENT;
            int most = 0;
            for (int c = 0; c < CREATURES; c++) {
                Course course = country.laid(c);
                int place = course == null ? ABSENT : course.placeAt(time);
                int creatures = country.creaturesAt(place, time);
                if (creatures > most || creatures == most && creatures > 0 && place < fullest) {
                    fullest = place;
                    most = creatures;
                }
            }
            return fullest;
        }

        private int placesOn(Course course) {
            Arrays.fill(marks, 0);
            int places = 0;
            for (int time = course.from; time <= course.last(); time++) {
                int place = course.placeAt(time);
                if (markAt(place) == 0) {
                    places++;
                    markPlace(place, 1);
                }
            }
            return places;
        }

        private int longestStay(Course course) {
            Arrays.fill(marks, 0);
            for (int time = course.from; time <= course.last(); time++) {
                int place = course.placeAt(time);
                markPlace(place, markAt(place) + 1);
            }
            int longest = course.placeAt(course.from);
            for (int time = course.from; time <= course.last(); time++) {
                int place = course.placeAt(time);
                if (markAt(place) > markAt(longest)) {
                    longest = place;
                }
            }
            return longest;
        }

        private int placesComeBackTo(Course course) {
            Arrays.fill(marks, 0);
            int places = 0;
            int before = NONE;
            for (int time = course.from; time <= course.last(); time++) {
                int place = course.placeAt(time);
                if (place != before) {
                    markPlace(place, markAt(place) + 1);
                    if (markAt(place) == 2) {
                        places++;
                    }
                }
                before = place;
            }
            return places;
        }

        /** Lays the LINE without its loops in the row; a mark is a PLACE's place in it, and one. */
        private int unloop(Course course) {
            Arrays.fill(marks, 0);
            int left = 0;
            for (int time = course.from; time <= course.last(); time++) {
                int place = course.placeAt(time);
                int kept = markAt(place);
                for (int i = left - 1; i >= kept && kept > 0; i--) {
                    markPlace(rowAt(i), 0);
                }
                if (kept > 0) {
                    left = kept;
                } else if (left < PLACES) {
                    row[left] = place;
                    left++;
                    markPlace(place, left);
                }
            }
            return left;
        }

        private int paidInAll(Course course) {
            int pence = 0;
            for (int time = course.from; time <= course.last(); time++) {
                pence += country.ground.penceAt(course.placeAt(time));
            }
            return pence;
        }

        private int paidFor(Course course, int field) {
            int pence = 0;
            for (int time = course.from; time <= course.last() && field >= 0; time++) {
                int place = course.placeAt(time);
                if (country.ground.kindAt(place) == FIRST_FIELD + field) {
                    pence += country.ground.penceAt(place);
                }
            }
            return pence;
        }

        private int dearestField(Course course) {
            int dearest = ABSENT;
            int most = 0;
            for (int field = 0; field < FIELDS; field++) {
                int pence = paidFor(course, field);
                if (pence > most) {
                    dearest = field;
                    most = pence;
                }
            }
            return dearest;
        }

        private int stepsByLand(int from, int to) {
            for (int place = 0; place < PLACES; place++) {
                marks[place] = country.ground.isWater(place) ? BLOCKED : 0;
            }
            spread(queue(from, 0));
            int reached = markAt(to);
            return reached > 0 ? reached - 1 : ABSENT;
        }

        private int placesShutIn(Course course) {
            Arrays.fill(marks, 0);
            for (int time = course.from; time <= course.last(); time++) {
                markPlace(course.placeAt(time), BLOCKED);
            }
            int queued = 0;
            for (int place = 0; place < PLACES; place++) {
                if (isOnEdge(place)) {
                    queued = queue(place, queued);
                }
            }
            spread(queued);
            int shutIn = 0;
            for (int place = 0; place < PLACES; place++) {
                if (marks[place] == 0) {
                    shutIn++;
                }
            }
            return shutIn;
        }

        private int placesSmelling(int least, int clock) {
            Arrays.fill(marks, 0);
            int places = 0;
            for (int c = 0; c < CREATURES; c++) {
                Course course = country.laid(c);
                if (course == null) {
                    continue;
                }
                for (int time = course.from; time <= course.last(); time++) {
                    int place = course.placeAt(time);
                    boolean isStrong = country.strength(time, clock) >= least;
                    if (isStrong && country.smells(place, time, clock) && markAt(place) == 0) {
                        places++;
                        markPlace(place, 1);
                    }
                }
            }
            return places;
        }

        /** Where a walk may start: it comes behind those that are in the row already. */
        private int queue(int place, int queued) {
            if (markAt(place) != 0 || queued < 0 || queued >= PLACES) {
                return queued;
            }
            row[queued] = place;
            markPlace(place, 1);
            return queued + 1;
        }

        /** Marks each PLACE that can be come to with one more than the steps to it. */
        private void spread(int queued) {
            int tail = queued;
            for (int head = 0; head < PLACES && head < tail; head++) {
                int place = row[head];
                for (int way = UP; way < WAYS; way++) {
                    int next = beside(place, way);
                    if (next != NONE && markAt(next) == 0 && tail < PLACES) {
                        row[tail] = next;
                        tail++;
                        markPlace(next, markAt(place) + 1);
                    }
                }
            }
        }

        private int rowAt(int i) {
            return i >= 0 && i < PLACES ? row[i] : NONE;
        }

        private int markAt(int place) {
            return isPlace(place) ? marks[place] : BLOCKED;
        }

        private void markPlace(int place, int mark) {
            if (isPlace(place)) {
                marks[place] = mark;
            }
        }

        private static int stepsApart(Course one, Course other, int time) {
            int place = one.placeAt(time);
            int there = other.placeAt(time);
            return across(place, there) + along(place, there);
        }

        private static boolean isOnEdge(int place) {
            int x = place & 15;
            int y = place >> 4;
            return x == 0 || x == WIDE - 1 || y == 0 || y == HIGH - 1;
        }
    }
}
