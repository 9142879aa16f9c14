/** A bench of toothed wheels. The words in capitals here are the Terms of ../shared/DOC.md. */
public final class PinionBench {
    public static final int BAD = -1, NOT = -2, FULL = -3, STATE = -5, CLASH = -8;
    public static final long VOID = Long.MIN_VALUE, CLASHED = Long.MIN_VALUE + 1;

    // Refusals of the calls whose own answers may be below 0.
    private static final int LOW_BAD = -1000, LOW_NONE = -1001, LOW_CLASH = -1002;
    private static final int MISSING = -11, OUTSIDE = -13, TOO_SMALL = -14;
    private static final int FAULT_FROM = -100, REFUSED_FROM = -200;

    private static final int MOST_WHEELS = 16, MOST_PAIRS = 9, MOST_BYTES = 80, MOST_PLACES = 20;
    // An ACT takes a byte at least, and a ; parts it from the next.
    private static final int MOST_ACTS = (MOST_BYTES + 1) / 2;
    private static final int LEAST_TEETH = 5, MOST_TEETH = 99, LEAST_RING = 20;
    private static final int LEAST_SHIFT = -50, MOST_SHIFT = 100;
    private static final int MOST_PLANETS = 8;
    private static final int ABOVE = 0, BELOW = 1;

    private final Bench now = new Bench();
    private final Bench kept = new Bench();
    private final Bench ahead = new Bench();
    private boolean isKept = false;
    private final Text tape = new Text();
    private final Row[] rows = {new Row(), new Row(), new Row()};
    private final Search search = new Search();

    public PinionBench() {
    }

    public int wheel(int teeth) {
        return now.addWheel(teeth);
    }

    public int shift(int wheel, int v) {
        return now.setShift(wheel, v);
    }

    public int pressure(int v) {
        return now.setPressure(v);
    }

    public int of(int wheel, int what) {
        return now.hasWheel(wheel) ? now.told(wheel, what) : LOW_BAD;
    }

    public int fewest(int s) {
        return isShift(s) ? now.fewestTeeth(s) : BAD;
    }

    public long distance(int one, int other, int part) {
        if (!isPart(part) || !now.canPair(one, other)) {
            return VOID;
        }
        return now.clashes(one, other) ? CLASHED : partOf(now.hundredths(one, other), 100, part);
    }

    public long ratio(int one, int other, int part) {
        if (!isPart(part) || !now.canPair(one, other)) {
            return VOID;
        }
        return now.clashes(one, other) ? CLASHED : partOf(now.above(one, other), now.below(one, other), part);
    }

    public long contact(int one, int other, int end) {
        if (end < 0 || end > 1 || !now.canPair(one, other) || now.hasRing(one, other)) {
            return VOID;
        }
        return end == 0 ? now.lowContact(one, other) : now.highContact(one, other);
    }

    public int shiftFor(int wheel, int other, int p, int q) {
        if (!now.canPair(wheel, other) || p < 1 || p > 9999 || q < 1 || q > 9999) {
            return LOW_BAD;
        }
        return now.clashes(wheel, other) ? LOW_CLASH : now.shiftAt(wheel, other, p, q);
    }

    public int wheels(int what) {
        return what < 0 || what > 3 ? BAD : now.wheelsThatAre(what);
    }

    public int pair(int one, int other) {
        return now.addPair(one, other);
    }

    public int clear() {
        return now.emptyTrain();
    }

    public long train(int part) {
        if (!isPart(part) || now.pairsInTrain() == 0) {
            return VOID;
        }
        return now.firstClash() >= 0 ? CLASHED : now.trainRatio(part);
    }

    public int faulty() {
        return now.firstClash();
    }

    public long closest(int what) {
        if (what < 0 || what > 2 || now.pairsInTrain() == 0) {
            return VOID;
        }
        if (now.firstClash() >= 0) {
            return CLASHED;
        }
        int nearest = now.nearestPair();
        return what == 0 ? nearest : partOf(now.hundredthsInTrain(nearest), 100, what - 1);
    }

    public int together(int sun, int planet, int k) {
        if (!isOutward(sun) || !isOutward(planet) || k < 1 || k > MOST_PLANETS) {
            return LOW_BAD;
        }
        boolean divides = Sets.divides(sun, planet, k), touch = Sets.touch(sun, planet, k);
        if (divides) {
            return touch ? -2 : 1;
        }
        return touch ? -3 : -1;
    }

    public int most(int sun, int planet) {
        return isOutward(sun) && isOutward(planet) ? Sets.mostPlanets(sun, planet) : BAD;
    }

    public long planets(int sun, int planet, int drives, int held, int part) {
        boolean teethGood = isOutward(sun) && isOutward(planet);
        boolean rolesGood = drives >= 0 && drives <= 2 && held >= 0 && held <= 2 && drives != held;
        return teethGood && rolesGood && isPart(part) ? Sets.ratioPart(sun, planet, drives, held, part) : VOID;
    }

    public int searched(int ab, int k, int uw, int t, int what) {
        if (!Search.isAsked(ab, k, uw, t) || what < 0 || what > 3) {
            return BAD;
        }
        search.run(ab, k, uw, t);
        return search.told(what);
    }

    public int feed(int letter) {
        return tape.append(letter);
    }

    public int read() {
        int fault = tape.parse();
        tape.empty();
        return fault >= 0 ? FAULT_FROM - fault : doActs();
    }

    private int doActs() {
        ahead.become(now);
        for (int i = 0; i < tape.acts(); i++) {
            if (!now.does(tape.letterOf(i), tape.firstOf(i), tape.secondOf(i))) {
                now.become(ahead);
                return REFUSED_FROM - i;
            }
        }
        return tape.acts();
    }

    public int row(int r, int n) {
        Row row = rowAt(r);
        if (row == null || n > MOST_PLACES) {
            return BAD;
        }
        return row.resize(n) ? 1 : TOO_SMALL;
    }

    public int put(int r, int i, long v) {
        Row row = rowAt(r);
        if (row == null) {
            return BAD;
        }
        if (row.isMissing()) {
            return MISSING;
        }
        return row.set(i, v) ? 1 : OUTSIDE;
    }

    public long get(int r, int i) {
        Row row = rowAt(r);
        return row != null && row.hasPlace(i) ? row.at(i) : VOID;
    }

    public int lay(int r) {
        Row row = rowAt(r);
        if (row == null) {
            return BAD;
        }
        if (row.isMissing()) {
            return MISSING;
        }
        int laid = Math.min(row.size(), now.size());
        for (int i = 0; i < laid; i++) {
            row.set(i, now.teethOf(i));
        }
        return laid;
    }

    public int judge(int r) {
        Row row = rowAt(r);
        if (row == null) {
            return BAD;
        }
        if (row.isMissing()) {
            return MISSING;
        }
        for (int i = 0; i < row.size(); i++) {
            if (!now.hasWheel(i) || row.at(i) != now.teethOf(i)) {
                return i;
            }
        }
        return NOT;
    }

    public int image() {
        kept.become(now);
        isKept = true;
        return now.size();
    }

    public int undo() {
        if (!isKept) {
            return STATE;
        }
        now.become(kept);
        return now.size();
    }

    public int count(int what) {
        switch (what) {
            case 0: return now.size();
            case 1: return now.pairsInTrain();
            case 2: return tape.length();
            case 3: return now.pressureNow();
            case 4: return now.outwardTeeth();
            default: return BAD;
        }
    }

    private Row rowAt(int r) {
        return r >= 0 && r < rows.length ? rows[r] : null;
    }

    private static boolean isOutward(int teeth) {
        return teeth >= LEAST_TEETH && teeth <= MOST_TEETH;
    }

    private static boolean isTeeth(int teeth) {
        return isOutward(teeth) || teeth >= -MOST_TEETH && teeth <= -LEAST_RING;
    }

    private static boolean isShift(int s) {
        return s >= LEAST_SHIFT && s <= MOST_SHIFT;
    }

    private static boolean isPart(int part) {
        return part == ABOVE || part == BELOW;
    }

    /** A part of a fraction in lowest terms; below is above 0. */
    private static long partOf(long above, long below, int part) {
        long divisor = commonDivisor(Math.abs(above), below);
        long whole = part == ABOVE ? above : below;
        return divisor > 1 ? whole / divisor : whole;
    }

    private static long commonDivisor(long one, long other) {
        long a = one, b = other;
        // Two turns halve b at least, so 200 are more than any longs need.
        for (int turn = 0; turn < 200 && b != 0; turn++) {
            long rest = a % b;
            a = b;
            b = rest;
        }
        return a;
    }

    /** The greatest whole number whose square is v at most; v is 0 .. 2 to the 62nd. */
    private static long root(long v) {
        long found = 0;
        for (int bit = 30; bit >= 0; bit--) {
            long tried = found + (1L << bit);
            if (tried * tried <= v) {
                found = tried;
            }
        }
        return found;
    }

    /** Whole numbers one behind the other up to a limit; no place is used here untested. */
    private static final class Ints {
        private final int[] numbers;
        private int size = 0;

        Ints(int limit) {
            numbers = new int[limit < 0 ? 0 : limit];
        }

        int size() {
            return size;
        }

        boolean isFull() {
            return size >= numbers.length;
        }

        boolean has(int i) {
            return i >= 0 && i < size && i < numbers.length;
        }

        int at(int i) {
            return i >= 0 && i < size && i < numbers.length ? numbers[i] : 0;
        }

        void set(int i, int v) {
            if (i >= 0 && i < size && i < numbers.length) {
                numbers[i] = v;
            }
        }

        void add(int v) {
            if (size >= 0 && size < numbers.length) {
                numbers[size] = v;
                size++;
            }
        }

        void empty() {
            size = 0;
        }

        void become(Ints other) {
            empty();
            for (int i = 0; i < other.size(); i++) {
                add(other.at(i));
            }
        }
    }

    /** WHEELS, PRESSURE, THE TRAIN: all that THE IMAGE holds. */
    private static final class Bench {
        private final Ints teeth = new Ints(MOST_WHEELS);
        private final Ints shifts = new Ints(MOST_WHEELS);
        private final Ints drivers = new Ints(MOST_PAIRS);
        private final Ints driven = new Ints(MOST_PAIRS);
        private int pressure = 1;

        void become(Bench other) {
            teeth.become(other.teeth);
            shifts.become(other.shifts);
            drivers.become(other.drivers);
            driven.become(other.driven);
            pressure = other.pressure;
        }

        int size() {
            return teeth.size();
        }

        boolean hasWheel(int wheel) {
            return teeth.has(wheel);
        }

        int teethOf(int wheel) {
            return teeth.at(wheel);
        }

        int pressureNow() {
            return pressure;
        }

        int pairsInTrain() {
            return drivers.size();
        }

        int addWheel(int z) {
            if (!isTeeth(z)) {
                return BAD;
            }
            if (teeth.isFull()) {
                return FULL;
            }
            teeth.add(z);
            shifts.add(0);
            return teeth.size() - 1;
        }

        int setShift(int wheel, int v) {
            if (!teeth.has(wheel) || !isShift(v)) {
                return LOW_BAD;
            }
            int was = shifts.at(wheel);
            shifts.set(wheel, v);
            return was;
        }

        int setPressure(int v) {
            if (v < 0 || v > 2) {
                return BAD;
            }
            int was = pressure;
            pressure = v;
            return was;
        }

        int addPair(int one, int other) {
            if (!canPair(one, other)) {
                return BAD;
            }
            if (drivers.isFull()) {
                return FULL;
            }
            drivers.add(one);
            driven.add(other);
            return drivers.size();
        }

        int emptyTrain() {
            int had = drivers.size();
            drivers.empty();
            driven.empty();
            return had;
        }

        /** Does an ACT, by its letter; says whether the call was taken. */
        boolean does(int letter, int first, int second) {
            switch (letter) {
                case 'w': return addWheel(first) >= 0;
                case 's': return setShift(first, second) != LOW_BAD;
                case 'p': return setPressure(first) != BAD;
                case 't': return addPair(first, second) >= 0;
                case 'x': return emptyTrain() >= 0;
                default: return false;
            }
        }

        int told(int wheel, int what) {
            switch (what) {
                case 0: return teeth.at(wheel);
                case 1: return shifts.at(wheel);
                case 2: return isUndercut(wheel) ? 1 : 0;
                case 3: return isPointed(wheel) ? 1 : 0;
                case 4: return leastShift(wheel);
                case 5: return pairsWith(wheel);
                default: return LOW_BAD;
            }
        }

        private int square() {
            switch (pressure) {
                case 0: return 627;
                case 1: return 1170;
                default: return 1786;
            }
        }

        private boolean isRing(int wheel) {
            return teeth.at(wheel) < 0;
        }

        private boolean keepsLimit(int z, int s) {
            return z * square() >= 200 * (100 - s);
        }

        private boolean isUndercut(int wheel) {
            return !isRing(wheel) && !keepsLimit(teeth.at(wheel), shifts.at(wheel));
        }

        private boolean isPointed(int wheel) {
            return !isRing(wheel) && shifts.at(wheel) > 5 * teeth.at(wheel) - 10;
        }

        private int leastShift(int wheel) {
            if (isRing(wheel)) {
                return LOW_NONE;
            }
            for (int s = LEAST_SHIFT; s <= MOST_SHIFT; s++) {
                if (keepsLimit(teeth.at(wheel), s)) {
                    return s;
                }
            }
            return LOW_NONE;
        }

        private int pairsWith(int wheel) {
            int found = 0;
            for (int i = 0; i < drivers.size(); i++) {
                if (drivers.at(i) == wheel || driven.at(i) == wheel) {
                    found++;
                }
            }
            return found;
        }

        int fewestTeeth(int s) {
            for (int z = LEAST_TEETH; z <= MOST_TEETH; z++) {
                if (keepsLimit(z, s)) {
                    return z;
                }
            }
            return NOT;
        }

        int wheelsThatAre(int what) {
            int found = 0;
            for (int i = 0; i < teeth.size(); i++) {
                if (is(i, what)) {
                    found++;
                }
            }
            return found;
        }

        private boolean is(int wheel, int what) {
            switch (what) {
                case 0: return isUndercut(wheel);
                case 1: return isPointed(wheel);
                case 2: return isRing(wheel);
                default: return isFirstOfItsTeeth(wheel);
            }
        }

        private boolean isFirstOfItsTeeth(int wheel) {
            for (int i = 0; i < wheel; i++) {
                if (teeth.at(i) == teeth.at(wheel)) {
                    return false;
                }
            }
            return true;
        }

        int outwardTeeth() {
            int sum = 0;
            for (int i = 0; i < teeth.size(); i++) {
                sum += Math.max(0, teeth.at(i));
            }
            return sum;
        }

        boolean hasRing(int one, int other) {
            return isRing(one) || isRing(other);
        }

        boolean canPair(int one, int other) {
            return hasWheel(one) && hasWheel(other) && one != other && !(isRing(one) && isRing(other));
        }

        boolean clashes(int one, int other) {
            // A RING's TEETH are below 0: the sum is the other's less the RING's.
            return hasRing(one, other) && teeth.at(one) + teeth.at(other) > -8;
        }

        /** What a WHEEL brings to a DISTANCE, in hundredths. */
        private int arm(int wheel) {
            return 50 * Math.abs(teeth.at(wheel)) + shifts.at(wheel);
        }

        int hundredths(int one, int other) {
            if (isRing(one)) {
                return arm(one) - arm(other);
            }
            return isRing(other) ? arm(other) - arm(one) : arm(one) + arm(other);
        }

        int shiftAt(int wheel, int other, int p, int q) {
            if (q == 0 || 100 * p % q != 0) {
                return LOW_NONE;
            }
            int wanted = 100 * p / q, wantedArm = wanted - arm(other);
            if (isRing(wheel)) {
                wantedArm = wanted + arm(other);
            } else if (isRing(other)) {
                wantedArm = arm(other) - wanted;
            }
            int s = wantedArm - 50 * Math.abs(teeth.at(wheel));
            return isShift(s) ? s : LOW_NONE;
        }

        /** Above the line of a RATIO, not yet in lowest terms. */
        long above(int one, int other) {
            int z = Math.abs(teeth.at(other));
            return hasRing(one, other) ? z : -z;
        }

        long below(int one, int other) {
            return Math.abs(teeth.at(one));
        }

        int firstClash() {
            for (int i = 0; i < drivers.size(); i++) {
                if (clashes(drivers.at(i), driven.at(i))) {
                    return i;
                }
            }
            return NOT;
        }

        long trainRatio(int part) {
            long above = 1, below = 1;
            // 9 PAIRS of 99 TEETH stay below 10 to the 18th, so longs hold both.
            for (int i = 0; i < drivers.size(); i++) {
                above *= above(drivers.at(i), driven.at(i));
                below *= below(drivers.at(i), driven.at(i));
            }
            return partOf(above, below, part);
        }

        int hundredthsInTrain(int i) {
            return hundredths(drivers.at(i), driven.at(i));
        }

        int nearestPair() {
            int nearest = 0;
            for (int i = 1; i < drivers.size(); i++) {
                if (hundredthsInTrain(i) < hundredthsInTrain(nearest)) {
                    nearest = i;
                }
            }
            return nearest;
        }

        private long cosine() {
            return root((10000L - square()) * 10000);
        }

        private long reach(int wheel) {
            long x = arm(wheel) + 100, z = teeth.at(wheel), c = 10000 - square();
            long inside = (4 * x * x - z * z * c) * 2500;
            return inside < 0 ? 0 : root(inside);
        }

        /** Both R less H. */
        private long path(int one, int other) {
            long d = arm(one) + arm(other);
            return reach(one) + reach(other) - root(d * d * square());
        }

        long lowContact(int one, int other) {
            long divisor = 31416 * (cosine() + 1);
            long quotient = divisor == 0 ? 0 : (path(one, other) - 1) * 10000000 / divisor;
            return Math.max(0, quotient);
        }

        long highContact(int one, int other) {
            long divisor = 31415 * cosine();
            long quotient = divisor == 0 ? 0 : (path(one, other) + 2) * 10000000 / divisor;
            return Math.max(0, quotient + 1);
        }
    }

    /** What follows of a SET's TEETH. */
    private static final class Sets {
        private static final int SUN = 0, CARRIER = 1, RING = 2;

        static int ring(int sun, int planet) {
            return sun + 2 * planet;
        }

        static boolean divides(int sun, int planet, int k) {
            return k != 0 && (sun + ring(sun, planet)) % k == 0;
        }

        static boolean touch(int sun, int planet, int k) {
            return k != 1 && (sun + planet) * sine(k) <= 1000 * (planet + 2);
        }

        static boolean canBe(int sun, int planet, int k) {
            return divides(sun, planet, k) && !touch(sun, planet, k);
        }

        static int teethTogether(int sun, int planet, int k) {
            return sun + k * planet + ring(sun, planet);
        }

        static int mostPlanets(int sun, int planet) {
            for (int k = MOST_PLANETS; k > 1; k--) {
                if (canBe(sun, planet, k)) {
                    return k;
                }
            }
            return 1;
        }

        private static int sine(int k) {
            switch (k) {
                case 2: return 1000;
                case 3: return 866;
                case 4: return 707;
                case 5: return 587;
                case 6: return 500;
                case 7: return 433;
                case 8: return 382;
                default: return 0;
            }
        }

        static long ratioPart(int sun, int planet, int drives, int held, int part) {
            // SUN and RING turn against one another only while the CARRIER stands.
            int sign = held == CARRIER ? -1 : 1;
            int above = weight(sun, planet, 3 - drives - held), below = weight(sun, planet, drives);
            return below > 0 ? partOf(sign * above, below, part) : VOID;
        }

        /** A RATIO is what is taken by what drives, each by this: so the other way about is turned over. */
        private static int weight(int sun, int planet, int role) {
            switch (role) {
                case SUN: return sun;
                case CARRIER: return sun + ring(sun, planet);
                case RING: return ring(sun, planet);
                default: return 0;
            }
        }
    }

    /** SEARCHED: one object, used again by each call. */
    private static final class Search {
        private int k = 1, u = 1, w = 1, t = 0;
        private int found = 0, sun = 0, planet = 0;

        static boolean isAsked(int ab, int k, int uw, int t) {
            int a = ab / 100, b = ab % 100, u = uw / 100, w = uw % 100;
            boolean spanGood = a >= 5 && b <= 60 && a <= b;
            boolean ratioGood = u >= 1 && u <= 99 && w >= 1;
            return spanGood && ratioGood && k >= 1 && k <= MOST_PLANETS && t >= 0 && t <= 200;
        }

        void run(int ab, int planets, int uw, int thousandths) {
            k = planets;
            u = uw / 100;
            w = uw % 100;
            t = thousandths;
            found = 0;
            int a = ab / 100, b = ab % 100;
            for (int s = a; s <= b; s++) {
                for (int p = a; p <= b; p++) {
                    if (isNear(s, p) && Sets.canBe(s, p, k)) {
                        take(s, p);
                    }
                }
            }
        }

        int told(int what) {
            if (what == 0) {
                return found;
            }
            if (found == 0) {
                return NOT;
            }
            if (what == 1) {
                return sun;
            }
            return what == 2 ? planet : Sets.teethTogether(sun, planet, k);
        }

        private void take(int s, int p) {
            if (found == 0 || isBetter(s, p)) {
                sun = s;
                planet = p;
            }
            found++;
        }

        /** |RATIO * w - u|, times the SUN's TEETH so that it is whole. */
        private int miss(int s, int p) {
            return Math.abs((s + Sets.ring(s, p)) * w - u * s);
        }

        private boolean isNear(int s, int p) {
            return miss(s, p) * 1000 <= u * t * s;
        }

        private boolean isBetter(int s, int p) {
            int mine = miss(s, p) * sun, best = miss(sun, planet) * s;
            if (mine != best) {
                return mine < best;
            }
            int myTeeth = Sets.teethTogether(s, p, k), bestTeeth = Sets.teethTogether(sun, planet, k);
            return myTeeth != bestTeeth ? myTeeth < bestTeeth : s < sun;
        }
    }

    /** THE TAPE, and the ACTS of the TEXT that it held last. */
    private static final class Text {
        private static final int END = -1;

        private final Ints bytes = new Ints(MOST_BYTES);
        private final Ints letters = new Ints(MOST_ACTS);
        private final Ints firsts = new Ints(MOST_ACTS);
        private final Ints seconds = new Ints(MOST_ACTS);
        private int place = 0, number = 0;

        int append(int letter) {
            if (letter < 32 || letter > 126) {
                return BAD;
            }
            if (bytes.isFull()) {
                return FULL;
            }
            bytes.add(letter);
            return bytes.size();
        }

        int length() {
            return bytes.size();
        }

        void empty() {
            bytes.empty();
        }

        int acts() {
            return letters.size();
        }

        int letterOf(int act) {
            return letters.at(act);
        }

        int firstOf(int act) {
            return firsts.at(act);
        }

        int secondOf(int act) {
            return seconds.at(act);
        }

        /** Tells the ACTS of THE TAPE apart: the FAULT, or below 0 if it is a TEXT. */
        int parse() {
            place = 0;
            letters.empty();
            firsts.empty();
            seconds.empty();
            for (int act = 0; act < MOST_ACTS; act++) {
                if (!parseAct()) {
                    return place;
                }
                if (place == bytes.size()) {
                    return END;
                }
                if (!skip(';')) {
                    return place;
                }
            }
            return place;
        }

        /** One ACT from the place on; if it is none, the place is where it fails. */
        private boolean parseAct() {
            int letter = next(), first = 0, second = 0;
            if (!isLetter(letter)) {
                return false;
            }
            place++;
            if (letter != 'x') {
                if (!skip(' ') || !parseNumber(letter == 'w')) {
                    return false;
                }
                first = number;
            }
            if (letter == 's' || letter == 't') {
                if (!skip(',') || !parseNumber(letter == 's')) {
                    return false;
                }
                second = number;
            }
            letters.add(letter);
            firsts.add(first);
            seconds.add(second);
            return true;
        }

        private boolean parseNumber(boolean signed) {
            boolean minus = signed && skip('-');
            int figures = 0, v = 0;
            for (; figures < 3 && isFigure(next()); figures++) {
                v = 10 * v + next() - '0';
                place++;
            }
            number = minus ? -v : v;
            return figures > 0;
        }

        private int next() {
            return bytes.has(place) ? bytes.at(place) : END;
        }

        private boolean skip(int letter) {
            boolean stands = next() == letter;
            if (stands) {
                place++;
            }
            return stands;
        }

        private static boolean isLetter(int letter) {
            return letter == 'w' || letter == 's' || letter == 'p' || letter == 't' || letter == 'x';
        }

        private static boolean isFigure(int letter) {
            return letter >= '0' && letter <= '9';
        }
    }

    /** One of the ROWS. */
    private static final class Row {
        private final long[] places = new long[MOST_PLACES];
        private int size = -1;

        boolean isMissing() {
            return size < 0;
        }

        int size() {
            return size;
        }

        boolean resize(int n) {
            if (n < -1 || n > places.length) {
                return false;
            }
            size = n;
            for (int i = 0; i < places.length; i++) {
                places[i] = 0;
            }
            return true;
        }

        boolean hasPlace(int i) {
            return i >= 0 && i < size && i < places.length;
        }

        long at(int i) {
            return hasPlace(i) ? places[i] : VOID;
        }

        boolean set(int i, long v) {
            boolean has = hasPlace(i);
            if (has) {
                places[i] = v;
            }
            return has;
        }
    }
}
