import java.util.Arrays;
import java.util.NoSuchElementException;

/**
 * A valley in which goats on ropes stand for a number. The document beside the project
 * (shared/DOC.md) tells what every call answers; the words in capitals there are the names here.
 */
public final class GoatAbacus {
    public static final int NONE = -1;
    public static final int HIDDEN = -2;

    private static final int LEAST_ROPES = 2;
    private static final int MOST_ROPES = 12;
    private static final int MOST_GOATS = 12;
    private static final int GOATS_AT_FIRST = 9;
    private static final int MOST_NUMBER = 999_999_999;
    private static final int MOST_PLACES = 9;
    private static final int MOST_BYTES = 160;
    private static final int MOST_SUMS = 6;
    private static final int MOST_STEPS = 12;
    private static final int MOST_UNDONE = 40;
    private static final int MOST_FOGS = 5;
    private static final int MOST_HARVEST = 8;
    private static final int MOST_MODULUS = 99;
    private static final int MOST_MINUTE = 9_999;
    private static final int MOST_FACTOR = 9_999;
    private static final int MOST_MADE = 999;
    private static final int MOST_DOGS = 9;

    private static final int LETTER_ADD = 0;
    private static final int LETTER_TAKE = 1;
    private static final int LETTER_DOUBLE = 2;
    private static final int LETTER_HALVE = 3;
    private static final int LETTER_EMPTY = 4;
    private static final String LETTERS = "atdhz";

    private static final long[] TENS = {
        1L, 10L, 100L, 1_000L, 10_000L, 100_000L, 1_000_000L, 10_000_000L, 100_000_000L,
        1_000_000_000L, 10_000_000_000L, 100_000_000_000L, 1_000_000_000_000L
    };
    /** 100 to the 9: products of hundredths for nine digits are exact in a long. */
    private static final long SURE = 1_000_000_000_000_000_000L;
    private static final long SURE_BY_MILLIONTHS = 1_000_000_000_000L;

    private final Valley valley;
    private final Valley side;
    private Valley kept;
    private int keptActs;
    private final Past past;
    private final Tape tape;
    private final Sum[] sums;
    private int sumCount;
    private final Ear ear;
    private final Store store;
    private final Timetable timetable;
    private final Dogs pack;
    private Veil veil;
    private int acts;
    private int order;
    private int pace;
    private int dog;
    private int shout;

    public GoatAbacus(int ropes) {
        valley = new Valley(Math.max(LEAST_ROPES, Math.min(MOST_ROPES, ropes)));
        side = new Valley(valley.ropes);
        past = new Past();
        tape = new Tape();
        sums = new Sum[MOST_SUMS];
        ear = new Ear();
        store = new Store();
        timetable = new Timetable();
        pack = new Dogs();
        pace = 1;
        dog = 2;
        shout = 1;
    }

    // ---- the tape and its sums

    public int feed(int a, int b, int c, int d, int e) {
        int more = bytesIn(a) + bytesIn(b) + bytesIn(c) + bytesIn(d) + bytesIn(e);
        if (tape.size + more > MOST_BYTES) {
            return NONE;
        }
        tape.write(a);
        tape.write(b);
        tape.write(c);
        tape.write(d);
        tape.write(e);
        return tape.size;
    }

    public boolean end(int n) {
        if (n < 0 || n > tape.size) {
            return false;
        }
        tape.size = n;
        return true;
    }

    public int fault() {
        return tape.look();
    }

    public int text() {
        if (sumCount >= MOST_SUMS || tape.look() != NONE) {
            return NONE;
        }
        sums[sumCount] = new Sum(tape.rows, tape.steps);
        sumCount++;
        tape.size = 0;
        return sumCount - 1;
    }

    public int step(int sum, int step, int what) throws NoSuchElementException {
        Sum told = sumAt(sum);
        if (told == null) {
            throw new NoSuchElementException("no such sum");
        }
        if (step == NONE && what == 0) {
            return told.steps;
        }
        if (step < 0 || step >= told.steps || what < 0 || what > 2) {
            throw new NoSuchElementException("no such step");
        }
        return told.part(step, what);
    }

    // ---- what is set

    public boolean set(int what, int v) {
        int least = what == 1 ? 1 : 0;
        int most = what == 0 ? 1 : 9;
        if (what < 0 || what > 3 || v < least || v > most) {
            return false;
        }
        switch (what) {
            case 0: order = v; break;
            case 1: pace = v; break;
            case 2: dog = v; break;
            default: shout = v; break;
        }
        return true;
    }

    public boolean goats(int rope, int n) {
        if (!isRope(rope) || n < 0 || n > MOST_GOATS || n < valley.digits[rope]) {
            return false;
        }
        valley.flock[rope] = n;
        return true;
    }

    public boolean echo(int digit, int as, int hundredths) {
        if (!isDigit(digit) || !isDigit(as) || digit == as || hundredths < 0 || hundredths > 100) {
            return false;
        }
        return ear.learn(digit, as, hundredths);
    }

    public void wind(long seed) {
        valley.draws = seed;
    }

    // ---- acts

    public int add(int number, boolean take) {
        if (!isNumber(number)) {
            return NONE;
        }
        return actOnce(take ? LETTER_TAKE : LETTER_ADD, number);
    }

    public int act(int what) {
        if (what < LETTER_DOUBLE || what > LETTER_EMPTY) {
            return NONE;
        }
        return actOnce(what, 0);
    }

    public int run(int sum) {
        Sum told = sumAt(sum);
        if (told == null) {
            return NONE;
        }
        for (int step = 0; step < told.steps; step++) {
            for (int time = 0; time < told.part(step, 2); time++) {
                actOnce(told.part(step, 0), told.part(step, 1));
            }
        }
        return acts;
    }

    public int undo() {
        if (!past.takeBack(valley)) {
            return NONE;
        }
        acts--;
        return acts;
    }

    // ---- the valley as it is

    public int rope(int rope, int what) {
        if (!isRope(rope)) {
            return NONE;
        }
        switch (what) {
            case 0: return valley.digits[rope];
            case 1: return valley.flock[rope];
            case 2: return valley.isFoggy(rope) ? HIDDEN : valley.seen(rope);
            default: return NONE;
        }
    }

    public long number() {
        return valley.value();
    }

    public int told(int what) {
        switch (what) {
            case 0: return valley.walks;
            case 1: return valley.carries;
            case 2: return valley.minutes;
            case 3: return valley.overs;
            case 4: return valley.lacks;
            case 5: return valley.left;
            case 6: return acts;
            default: return NONE;
        }
    }

    public int done(int number, int rope) {
        if (!isNumber(number) || (rope != NONE && !isRope(rope))) {
            return NONE;
        }
        timetable.plan(valley, number, pace, dog, shout);
        return rope == NONE ? timetable.lastRest(valley.ropes) : timetable.rests[rope];
    }

    public int standing(int number, int rope, int minute) {
        if (!isNumber(number) || !isRope(rope) || minute < 0 || minute > MOST_MINUTE) {
            return NONE;
        }
        timetable.plan(valley, number, pace, dog, shout);
        return timetable.digitAt(rope, valley.digits[rope], minute);
    }

    public boolean two(int rope, boolean is) {
        if (!isRope(rope)) {
            return false;
        }
        valley.twos = withBit(valley.twos, rope, is);
        return true;
    }

    public boolean fog(int rope, boolean is) {
        if (!isRope(rope)) {
            return false;
        }
        if (is && Integer.bitCount(withBit(valley.fogs, rope, false)) >= MOST_FOGS) {
            return false;
        }
        valley.fogs = withBit(valley.fogs, rope, is);
        return true;
    }

    // ---- proofs by bells, fog, goats astray

    public int bell(int m) {
        if (!isBell(m)) {
            return NONE;
        }
        if (valley.fogs != 0) {
            return HIDDEN;
        }
        return (int) (valley.valueSeen() % m);
    }

    public int miss(int number, int m) {
        if (!isNumber(number) || (m != NONE && !isBell(m))) {
            return NONE;
        }
        return m == NONE ? ear.wrong(number) : ear.missed(number, m);
    }

    public int safest(int number, int p) {
        if (!isNumber(number) || !isBell(p)) {
            return NONE;
        }
        int best = 2;
        int least = ear.missed(number, 2);
        for (int m = 3; m <= p && least > 0; m++) {
            int missed = ear.missed(number, m);
            if (missed < least) {
                least = missed;
                best = m;
            }
        }
        return best;
    }

    public long span(int m, int r, int what) {
        if (!isRest(m, r) || what < 0 || what > 2) {
            return NONE;
        }
        if (veil == null) {
            veil = new Veil();
        }
        veil.look(valley, m);
        int howMany = veil.howMany(r);
        if (what == 0) {
            return howMany;
        }
        return howMany == 0 ? NONE : veil.outermost(r, what == 2);
    }

    public int astray(int m, int r, int i) {
        if (!isRest(m, r) || i < NONE) {
            return NONE;
        }
        if (valley.fogs != 0) {
            return HIDDEN;
        }
        long whole = valley.valueSeen();
        int found = 0;
        for (int rope = 0; rope < valley.ropes; rope++) {
            long others = whole - valley.seen(rope) * TENS[rope];
            for (int digit = 0; digit <= 9; digit++) {
                if (digit != valley.seen(rope) && (others + digit * TENS[rope]) % m == r) {
                    if (found == i) {
                        return 10 * rope + digit;
                    }
                    found++;
                }
            }
        }
        return i == NONE ? found : NONE;
    }

    // ---- the harvest

    public int harvest(int number) {
        if (!isNumber(number) || store.size >= MOST_HARVEST) {
            return NONE;
        }
        store.bringIn(number);
        return store.size;
    }

    public int fewest(int what) {
        if (store.size == 0 || what < NONE || what > store.size) {
            return HIDDEN;
        }
        side.clear(valley.ropes);
        if (what == NONE) {
            return store.walksAsTold(side);
        }
        store.weigh(side);
        return what == 0 ? store.fewestWalks() : store.comesAt(side, what - 1);
    }

    public int added(int i) {
        if (i < NONE) {
            return NONE;
        }
        if (valley.fogs != 0) {
            return HIDDEN;
        }
        long whole = valley.valueSeen();
        int found = 0;
        for (int some = 0; some < store.sets(); some++) {
            if (store.sumOf(some) == whole) {
                if (found == i) {
                    return some;
                }
                found++;
            }
        }
        return i == NONE ? found : NONE;
    }

    public int near() {
        if (valley.fogs != 0) {
            return HIDDEN;
        }
        long whole = valley.valueSeen();
        int pairs = 0;
        for (int some = 0; some < store.sets(); some++) {
            long apart = store.sumOf(some) - whole;
            for (int rope = 0; rope < valley.ropes; rope++) {
                if (apart == TENS[rope] && isDigit(valley.seen(rope) + 1)) {
                    pairs++;
                } else if (apart == -TENS[rope] && isDigit(valley.seen(rope) - 1)) {
                    pairs++;
                }
            }
        }
        return pairs;
    }

    public int as(int number, int other) {
        if (!isNumber(number) || !isNumber(other)) {
            return NONE;
        }
        return (int) (ear.likely(number, other) / SURE_BY_MILLIONTHS);
    }

    public int guess(int heard) {
        if (!isNumber(heard)) {
            return NONE;
        }
        int best = NONE;
        long most = 0;
        for (int k = 0; k < store.size; k++) {
            long likely = ear.likely(store.numbers[k], heard);
            if (likely > most) {
                most = likely;
                best = k;
            }
        }
        return best;
    }

    public int confused() {
        int pairs = 0;
        for (int k = 0; k < store.size; k++) {
            for (int j = k + 1; j < store.size; j++) {
                if (ear.likely(store.numbers[k], store.numbers[j]) > 0
                        || ear.likely(store.numbers[j], store.numbers[k]) > 0) {
                    pairs++;
                }
            }
        }
        return pairs;
    }

    public int odds(int k) {
        if (k < 0 || k >= store.size) {
            return NONE;
        }
        if (valley.fogs != 0) {
            return HIDDEN;
        }
        long whole = valley.valueSeen();
        long together = 0;
        for (int j = 0; j < store.size; j++) {
            together += ear.likely(store.numbers[j], whole);
        }
        return millionths(ear.likely(store.numbers[k], whole), together);
    }

    // ---- products, all digits, numbers made

    public long product(int a, int b, int way, int what) {
        if (!isFactor(a) || !isFactor(b) || way < 0 || way > 2 || what < 0 || what > 2) {
            return NONE;
        }
        int howMany = multiply(a, b, way);
        return what == 0 ? side.walks : what == 1 ? howMany : side.value();
    }

    public int rival(int a, int b) {
        if (!isFactor(a) || !isFactor(b)) {
            return NONE;
        }
        int best = 0;
        int least = Integer.MAX_VALUE;
        for (int way = 0; way <= 2; way++) {
            multiply(a, b, way);
            if (side.walks < least) {
                least = side.walks;
                best = way;
            }
        }
        return best;
    }

    public int all(int weights, int n, int what) {
        if (weights < 1 || weights > 511 || n < 1 || n > 9 || what < 0 || what > 1) {
            return NONE;
        }
        // n goats of weight 1 make every digit, and digit 1 needs one of weight 1: n are enough, or none are.
        for (int howMany = 1; howMany <= n; howMany++) {
            int which = leastHerd(weights, 1, howMany, 1, n);
            if (which != NONE) {
                return what == 0 ? howMany : which;
            }
        }
        return NONE;
    }

    public int make(int number, int what) {
        if (number < 0 || number > MOST_MADE || what < 0 || what > 1) {
            return NONE;
        }
        // No rope gets from 0 to its digit by fewer walks than that digit. With no more than these nothing is
        // carried, and then only an act of its own (no DOUBLE) can begin a rope: one for each digit is enough.
        int answer = 0;
        for (int place = 0; place < 3; place++) {
            int digit = digitOf(number, place);
            answer += what == 0 ? digit : Math.min(digit, 1);
        }
        return answer;
    }

    // ---- tried on the side

    public long tried(int sum, int what) {
        Sum told = sumAt(sum);
        if (told == null || what < 0 || what > 5) {
            return NONE;
        }
        side.beginAs(valley);
        goThrough(told);
        switch (what) {
            case 0: return side.value();
            case 1: return side.walks;
            case 2: return side.carries;
            case 3: return side.minutes;
            case 4: return side.lacks;
            default: return side.overs;
        }
    }

    public int needs(int sum, int rope) {
        Sum told = sumAt(sum);
        if (told == null || !isRope(rope)) {
            return NONE;
        }
        side.beginAs(valley);
        goThrough(told);
        return side.greatest[rope];
    }

    public int herd(int sum) {
        Sum told = sumAt(sum);
        if (told == null) {
            return NONE;
        }
        side.clear(valley.ropes);
        goThrough(told);
        int together = 0;
        for (int rope = 0; rope < side.ropes; rope++) {
            together += side.greatest[rope];
        }
        return together;
    }

    public int cheaper(int number) {
        if (!isNumber(number)) {
            return NONE;
        }
        return walksByOrder(number, 1) < walksByOrder(number, 0) ? 1 : 0;
    }

    public int kids(int some) {
        if (some <= 0 || some >= 1 << valley.ropes) {
            return NONE;
        }
        for (int rope = 0; rope < valley.ropes; rope++) {
            if (hasBit(some, rope) && valley.flock[rope] >= MOST_GOATS) {
                return NONE;
            }
        }
        int together = 0;
        for (int rope = 0; rope < valley.ropes; rope++) {
            valley.flock[rope] += hasBit(some, rope) ? 1 : 0;
            together += valley.flock[rope];
        }
        return together;
    }

    // ---- relays

    public int relay(int number, int dogs, int rank) {
        if (!isNumber(number) || !isPack(dogs) || rank < 0 || rank > 1) {
            return NONE;
        }
        return restByRank(number, dogs, rank);
    }

    public int ranked(int number, int dogs) {
        if (!isNumber(number) || !isPack(dogs)) {
            return NONE;
        }
        return restByRank(number, dogs, 1) < restByRank(number, dogs, 0) ? 1 : 0;
    }

    // ---- images and counts

    public int image() {
        if (kept == null) {
            kept = new Valley(valley.ropes);
        }
        kept.becomeAs(valley);
        keptActs = acts;
        return acts;
    }

    public int back() {
        if (kept == null) {
            return NONE;
        }
        valley.becomeAs(kept);
        acts = keptActs;
        past.forget();
        return acts;
    }

    public int count(int what) {
        switch (what) {
            case 0: return valley.ropes;
            case 1: return sumCount;
            case 2: return tape.size;
            case 3: return store.size;
            case 4: return past.size;
            default: return NONE;
        }
    }

    // ---- what may be asked

    private boolean isRope(int rope) {
        return rope >= 0 && rope < valley.ropes;
    }

    private Sum sumAt(int sum) {
        return sum >= 0 && sum < sumCount ? sums[sum] : null;
    }

    private static boolean isNumber(int number) {
        return number >= 0 && number <= MOST_NUMBER;
    }

    private static boolean isDigit(int digit) {
        return digit >= 0 && digit <= 9;
    }

    private static boolean isBell(int m) {
        return m >= 2 && m <= MOST_MODULUS;
    }

    /** What SPAN and ASTRAY may be asked for; m 1, too. */
    private static boolean isRest(int m, int r) {
        return m >= 1 && m <= MOST_MODULUS && r >= 0 && r < m;
    }

    private static boolean isFactor(int factor) {
        return factor >= 0 && factor <= MOST_FACTOR;
    }

    private static boolean isPack(int dogs) {
        return dogs >= 1 && dogs <= MOST_DOGS;
    }

    // ---- work on the valley and on the side

    private int actOnce(int letter, int number) {
        past.keep(valley);
        perform(valley, letter, number, ear);
        acts++;
        return acts;
    }

    private void goThrough(Sum told) {
        for (int step = 0; step < told.steps; step++) {
            for (int time = 0; time < told.part(step, 2); time++) {
                perform(side, told.part(step, 0), told.part(step, 1), null);
            }
        }
    }

    /** MINUTES are counted by the PACE and DOG of the time of the ACT. */
    private void perform(Valley at, int letter, int number, Ear listener) {
        int walksAhead = at.walks;
        int carriesAhead = at.carries;
        switch (letter) {
            case LETTER_ADD: at.bring(number, false, order, listener); break;
            case LETTER_TAKE: at.bring(number, true, order, listener); break;
            case LETTER_DOUBLE: at.twice(); break;
            case LETTER_HALVE: at.halve(); break;
            default: at.empty(); break;
        }
        at.minutes += (at.walks - walksAhead) * pace + (at.carries - carriesAhead) * dog;
    }

    private int walksByOrder(int number, int byOrder) {
        side.beginAs(valley);
        side.bring(number, false, byOrder, null);
        return side.walks;
    }

    private int restByRank(int number, int dogs, int rank) {
        pack.setOut(valley, number, shout);
        return pack.minuteOfRest(dogs, rank, pace, dog);
    }

    /** The PRODUCT stands on the side then; answers how many ADDS and DOUBLES there were. */
    private int multiply(int a, int b, int way) {
        side.clear(MOST_PLACES);
        if (way == 2) {
            return multiplyByBits(a, b);
        }
        int howMany = 0;
        for (int turn = 0; turn < 4; turn++) {
            int place = way == 0 ? turn : 3 - turn;
            int often = digitOf(b, place);
            for (int time = 0; time < often; time++) {
                side.bring((int) (a * TENS[place]), false, 0, null);
            }
            howMany += often;
        }
        return howMany;
    }

    private int multiplyByBits(int a, int b) {
        int howMany = 0;
        for (int bit = 31 - Integer.numberOfLeadingZeros(b); bit >= 0; bit--) {
            side.twice();
            howMany++;
            if (hasBit(b, bit)) {
                side.bring(a, false, 0, null);
                howMany++;
            }
        }
        return howMany;
    }

    /**
     * The first herd, fewer of the lower weights first, of just so many goats of this weight and
     * above, that with the sums made so far (bits) makes all digits; each level is one weight.
     */
    private static int leastHerd(int weights, int weight, int howMany, int made, int n) {
        if (weight > 9 || howMany == 0) {
            int wanted = (1 << (n + 1)) - 1;
            return howMany == 0 && (made & wanted) == wanted ? 0 : NONE;
        }
        int most = hasBit(weights, weight - 1) ? howMany : 0;
        int reached = made;
        for (int of = 0; of <= most; of++) {
            int above = leastHerd(weights, weight + 1, howMany - of, reached, n);
            if (above != NONE) {
                return of + 10 * above;
            }
            reached = (reached | reached << weight) & 1023;
        }
        return NONE;
    }

    // ---- small functions

    private static int bytesIn(int four) {
        int bytes = 0;
        for (int shift = 24; shift >= 0; shift -= 8) {
            bytes += (four >>> shift & 255) != 0 ? 1 : 0;
        }
        return bytes;
    }

    private static boolean hasBit(int bits, int bit) {
        return (bits >>> bit & 1) != 0;
    }

    private static int withBit(int bits, int bit, boolean is) {
        return is ? bits | 1 << bit : bits & ~(1 << bit);
    }

    private static int digitOf(long number, int place) {
        return place < 0 || place >= TENS.length ? 0 : (int) (number / TENS[place] % 10);
    }

    /** The place of the highest digit that is not 0; NONE for 0, of which nothing is SHOUTED. */
    private static int topPlace(long number) {
        int top = NONE;
        for (int place = 0; place < TENS.length && number >= TENS[place]; place++) {
            top = place;
        }
        return top;
    }

    /** One digit after the other, by adding ten times: part times 10 to the 6 is too great for a long. */
    private static int millionths(long part, long whole) {
        if (whole <= 0) {
            return 0;
        }
        int parts = (int) (part / whole);
        long rest = part % whole;
        for (int place = 0; place < 6; place++) {
            int digit = 0;
            long tenfold = 0;
            for (int time = 0; time < 10; time++) {
                if (tenfold >= whole - rest) {
                    tenfold -= whole - rest;
                    digit++;
                } else {
                    tenfold += rest;
                }
            }
            parts = 10 * parts + digit;
            rest = tenfold;
        }
        return parts;
    }

    /** ROPES, their goats and all that an ACT changes. */
    private static final class Valley {
        int ropes;
        final int[] digits = new int[MOST_ROPES];
        final int[] flock = new int[MOST_ROPES];
        final int[] greatest = new int[MOST_ROPES];
        int twos;
        int fogs;
        long draws;
        int walks;
        int carries;
        int minutes;
        int overs;
        int lacks;
        int left;

        Valley(int ropes) {
            this.ropes = ropes;
            Arrays.fill(flock, GOATS_AT_FIRST);
        }

        /** Empty, with so many ROPES (2 .. 12) and GOATS enough for every DIGIT. */
        void clear(int howManyRopes) {
            ropes = howManyRopes;
            Arrays.fill(digits, 0);
            Arrays.fill(flock, GOATS_AT_FIRST);
            Arrays.fill(greatest, 0);
            startCounts();
        }

        /** The goats stand as in the other valley; all counts begin at 0. */
        void beginAs(Valley other) {
            ropes = other.ropes;
            System.arraycopy(other.digits, 0, digits, 0, MOST_ROPES);
            System.arraycopy(other.flock, 0, flock, 0, MOST_ROPES);
            System.arraycopy(other.digits, 0, greatest, 0, MOST_ROPES);
            startCounts();
        }

        void becomeAs(Valley other) {
            beginAs(other);
            twos = other.twos;
            fogs = other.fogs;
            draws = other.draws;
            walks = other.walks;
            carries = other.carries;
            minutes = other.minutes;
            overs = other.overs;
            lacks = other.lacks;
            left = other.left;
        }

        private void startCounts() {
            walks = 0;
            carries = 0;
            minutes = 0;
            overs = 0;
            lacks = 0;
            left = 0;
        }

        void standFor(long number) {
            for (int rope = 0; rope < ropes; rope++) {
                digits[rope] = digitOf(number, rope);
            }
        }

        long value() {
            long value = 0;
            for (int rope = 0; rope < ropes; rope++) {
                value += digits[rope] * TENS[rope];
            }
            return value;
        }

        long valueSeen() {
            long value = 0;
            for (int rope = 0; rope < ropes; rope++) {
                value += seen(rope) * TENS[rope];
            }
            return value;
        }

        int seen(int rope) {
            return digits[rope] + (hasBit(twos, rope) && digits[rope] > 0 ? 1 : 0);
        }

        boolean isFoggy(int rope) {
            return hasBit(fogs, rope);
        }

        /** To ADD or TAKE; without a listener every DIGIT is heard as told, and nothing is drawn. */
        void bring(int number, boolean take, int byOrder, Ear listener) {
            if (number >= TENS[ropes]) {
                overs++;
            }
            int top = topRope(number);
            for (int turn = 0; turn <= top; turn++) {
                int rope = byOrder == 0 ? turn : top - turn;
                int digit = digitOf(number, rope);
                int heard = listener == null ? digit : listener.hears(digit, draw());
                drive(rope, take ? -heard : heard);
            }
        }

        /** The highest ROPE for which something is SHOUTED: DIGITS above the last ROPE are lost ahead of that. */
        int topRope(int number) {
            return topPlace(number % TENS[ropes]);
        }

        private int draw() {
            draws = draws * 6364136223846793005L + 1442695040888963407L;
            return (int) ((draws >>> 33) % 100);
        }

        /** By so many onto the ROPE, or off it (below 0), with all CARRIES that come of it. */
        private void drive(int rope, int by) {
            int now = by;
            for (int at = rope; at < ropes; at++) {
                int should = digits[at] + now;
                boolean carry = !isDigit(should);
                stand(at, !carry ? should : now < 0 ? should + 10 : should - 10);
                if (!carry) {
                    return;
                }
                carries++;
                now = now < 0 ? -1 : 1;
            }
            overs++;
        }

        private void stand(int rope, int should) {
            greatest[rope] = Math.max(greatest[rope], should);
            int can = Math.min(should, flock[rope]);
            lacks += should - can;
            walks += Math.abs(can - digits[rope]);
            digits[rope] = can;
        }

        void twice() {
            // From the highest ROPE down no CARRY reaches a DIGIT that is still to be driven.
            for (int rope = ropes - 1; rope >= 0; rope--) {
                drive(rope, digits[rope]);
            }
        }

        void halve() {
            int rest = 0;
            for (int rope = ropes - 1; rope >= 0; rope--) {
                int both = 10 * rest + digits[rope];
                stand(rope, both / 2);
                rest = both % 2;
            }
            left = rest;
        }

        void empty() {
            for (int rope = 0; rope < ropes; rope++) {
                stand(rope, 0);
            }
        }
    }

    /** The latest ACTS, each as the valley was ahead of it, in one row that goes round. */
    private static final class Past {
        private static final int WIDTH = 8;
        private final long[] rows = new long[MOST_UNDONE * WIDTH];
        private int next;
        int size;

        void keep(Valley valley) {
            int at = next * WIDTH;
            rows[at] = valley.value();
            rows[at + 1] = valley.draws;
            rows[at + 2] = valley.walks;
            rows[at + 3] = valley.carries;
            rows[at + 4] = valley.minutes;
            rows[at + 5] = valley.overs;
            rows[at + 6] = valley.lacks;
            rows[at + 7] = valley.left;
            next = (next + 1) % MOST_UNDONE;
            size = Math.min(size + 1, MOST_UNDONE);
        }

        boolean takeBack(Valley valley) {
            if (size == 0) {
                return false;
            }
            size--;
            next = (next + MOST_UNDONE - 1) % MOST_UNDONE;
            int at = next * WIDTH;
            valley.standFor(rows[at]);
            valley.draws = rows[at + 1];
            valley.walks = (int) rows[at + 2];
            valley.carries = (int) rows[at + 3];
            valley.minutes = (int) rows[at + 4];
            valley.overs = (int) rows[at + 5];
            valley.lacks = (int) rows[at + 6];
            valley.left = (int) rows[at + 7];
            return true;
        }

        void forget() {
            size = 0;
        }
    }

    /** The TAPE, and the STEPS that the latest look at it has read. */
    private static final class Tape {
        private final int[] bytes = new int[MOST_BYTES];
        int size;
        final int[] rows = new int[MOST_STEPS * Sum.WIDTH];
        int steps;
        private int at;

        void write(int four) {
            for (int shift = 24; shift >= 0; shift -= 8) {
                int next = four >>> shift & 255;
                if (next != 0 && size < MOST_BYTES) {
                    bytes[size] = next;
                    size++;
                }
            }
        }

        /** The FAULT, or NONE. */
        int look() {
            at = 0;
            for (steps = 0; steps < MOST_STEPS; steps++) {
                if (steps > 0) {
                    if (!isNext(';')) {
                        return at;
                    }
                    at++;
                }
                if (!readStep(steps * Sum.WIDTH)) {
                    return at;
                }
                if (at >= size) {
                    steps++;
                    return NONE;
                }
            }
            return at;
        }

        /** One STEP with the blanks round it; if it can't be, the place is where it goes wrong. */
        private boolean readStep(int row) {
            skipBlanks();
            int letter = at < size ? LETTERS.indexOf((char) bytes[at]) : NONE;
            if (letter < 0) {
                return false;
            }
            at++;
            skipBlanks();
            rows[row] = letter;
            rows[row + 1] = 0;
            rows[row + 2] = 1;
            if (letter <= LETTER_TAKE && !readNumber(row + 1)) {
                return false;
            }
            if (isNext('x') && !readOften(row + 2)) {
                return false;
            }
            return true;
        }

        private boolean readNumber(int into) {
            int first = at;
            int number = 0;
            while (at < size && at < first + MOST_PLACES && isDigit(bytes[at] - '0')) {
                number = 10 * number + bytes[at] - '0';
                at++;
            }
            // A tenth digit is left where it stands: nothing that may follow a number begins with one.
            rows[into] = number;
            boolean isThere = at > first;
            skipBlanks();
            return isThere;
        }

        private boolean readOften(int into) {
            at++;
            skipBlanks();
            int often = at < size ? bytes[at] - '0' : 0;
            if (often < 1 || often > 9) {
                return false;
            }
            rows[into] = often;
            at++;
            skipBlanks();
            return true;
        }

        private void skipBlanks() {
            while (at < size && bytes[at] == ' ') {
                at++;
            }
        }

        private boolean isNext(int sign) {
            return at < size && bytes[at] == sign;
        }
    }

    /** The STEPS of a SUM: letter, number and how often, one behind the other. */
    private static final class Sum {
        private static final int WIDTH = 3;
        final int steps;
        private final int[] rows;

        Sum(int[] from, int steps) {
            this.steps = steps;
            this.rows = Arrays.copyOf(from, steps * WIDTH);
        }

        int part(int step, int what) {
            return rows[step * WIDTH + what];
        }
    }

    /** The ECHOES: as what each DIGIT is HEARD, itself too, by hundredths. */
    private static final class Ear {
        private final int[] hundredths = new int[100];
        private long[] shares = new long[MOST_MODULUS];
        private long[] nextShares = new long[MOST_MODULUS];

        Ear() {
            for (int digit = 0; digit <= 9; digit++) {
                hundredths[11 * digit] = 100;
            }
        }

        boolean learn(int digit, int other, int by) {
            int asItself = hundredths[11 * digit] + hundredths[10 * digit + other] - by;
            if (asItself < 0) {
                return false;
            }
            hundredths[11 * digit] = asItself;
            hundredths[10 * digit + other] = by;
            return true;
        }

        int hears(int digit, int drawn) {
            int together = 0;
            for (int other = 0; other <= 9; other++) {
                if (other != digit) {
                    together += hundredths[10 * digit + other];
                    if (together > drawn) {
                        return other;
                    }
                }
            }
            return digit;
        }

        /** How likely a number is HEARD as the other one, exactly, in parts of 10 to the 18. */
        long likely(int number, long other) {
            int top = topPlace(number);
            if (topPlace(other) > top) {
                return 0;
            }
            long likely = 1;
            for (int place = 0; place < MOST_PLACES; place++) {
                likely *= place > top ? 100 : hundredths[10 * digitOf(number, place) + digitOf(other, place)];
            }
            return likely;
        }

        int wrong(int number) {
            return (int) ((SURE - likely(number, number)) / SURE_BY_MILLIONTHS);
        }

        int missed(int number, int m) {
            return (int) ((alike(number, m) - likely(number, number)) / SURE_BY_MILLIONTHS);
        }

        /** How likely the number is HEARD as one that is the same modulo m, itself too; by 10 to the 18. */
        private long alike(int number, int m) {
            Arrays.fill(shares, 0L);
            shares[0] = 1;
            int top = topPlace(number);
            for (int place = 0; place < MOST_PLACES; place++) {
                if (place <= top) {
                    spread(10 * digitOf(number, place), TENS[place] % m, m);
                } else {
                    for (int rest = 0; rest < m; rest++) {
                        shares[rest] *= 100;
                    }
                }
            }
            return shares[number % m];
        }

        private void spread(int row, long weight, int m) {
            Arrays.fill(nextShares, 0L);
            for (int other = 0; other <= 9; other++) {
                int by = hundredths[row + other];
                int shift = (int) (other * weight % m);
                for (int rest = 0; rest < m && by > 0; rest++) {
                    int then = rest + shift < m ? rest + shift : rest + shift - m;
                    nextShares[then] += shares[rest] * by;
                }
            }
            long[] spare = shares;
            shares = nextShares;
            nextShares = spare;
        }
    }

    /** The HARVEST, and its order with the fewest WALKS. */
    private static final class Store {
        final int[] numbers = new int[MOST_HARVEST];
        int size;
        /** By the set that was added: the fewest WALKS for all others. */
        private int[] remaining;
        private int weighed;

        void bringIn(int number) {
            if (size < MOST_HARVEST) {
                numbers[size] = number;
                size++;
            }
        }

        int sets() {
            return 1 << size;
        }

        long sumOf(int some) {
            long sum = 0;
            for (int k = 0; k < size; k++) {
                sum += hasBit(some, k) ? numbers[k] : 0;
            }
            return sum;
        }

        int walksAsTold(Valley empty) {
            for (int k = 0; k < size; k++) {
                empty.bring(numbers[k], false, 0, null);
            }
            return empty.walks;
        }

        void weigh(Valley scratch) {
            if (weighed == size) {
                return;
            }
            if (remaining == null) {
                remaining = new int[1 << MOST_HARVEST];
            }
            remaining[sets() - 1] = 0;
            for (int some = sets() - 2; some >= 0; some--) {
                int least = Integer.MAX_VALUE;
                for (int k = 0; k < size; k++) {
                    if (!hasBit(some, k)) {
                        least = Math.min(least, walksBy(scratch, some, k));
                    }
                }
                remaining[some] = least;
            }
            weighed = size;
        }

        int fewestWalks() {
            return remaining == null ? 0 : remaining[0];
        }

        /** Which comes in a turn: always the first by which nothing is lost. */
        int comesAt(Valley scratch, int turn) {
            int some = 0;
            int chosen = NONE;
            for (int now = 0; now <= turn && now < size; now++) {
                chosen = firstBehind(scratch, some);
                if (chosen == NONE) {
                    return NONE;
                }
                some |= 1 << chosen;
            }
            return chosen;
        }

        private int firstBehind(Valley scratch, int some) {
            for (int k = 0; k < size; k++) {
                if (!hasBit(some, k) && remaining != null && walksBy(scratch, some, k) == remaining[some]) {
                    return k;
                }
            }
            return NONE;
        }

        /** The WALKS if behind that set the k-th is added next, then the others as well as can be. */
        private int walksBy(Valley scratch, int some, int k) {
            int ahead = scratch.walks;
            scratch.standFor(sumOf(some));
            scratch.bring(numbers[k], false, 0, null);
            int behind = remaining == null ? 0 : remaining[some | 1 << k];
            return scratch.walks - ahead + behind;
        }
    }

    /** DONE: all ROPES at one time; of each its DRIVES (two at most: its DIGIT, one CARRY). */
    private static final class Timetable {
        private final int[] begins = new int[2 * MOST_ROPES];
        private final int[] froms = new int[2 * MOST_ROPES];
        private final int[] tos = new int[2 * MOST_ROPES];
        private final int[] drives = new int[MOST_ROPES];
        final int[] rests = new int[MOST_ROPES];
        private int pace = 1;
        private int dog;
        private int shout;
        private int digit;
        private int free;
        private int sends;

        void plan(Valley valley, int number, int byPace, int byDog, int byShout) {
            pace = Math.max(1, byPace);
            dog = byDog;
            shout = byShout;
            int top = valley.topRope(number);
            int comes = NONE;
            for (int rope = 0; rope < valley.ropes; rope++) {
                digit = valley.digits[rope];
                comes = planRope(rope, rope <= top ? digitOf(number, rope) : NONE, comes, valley.flock[rope]);
            }
        }

        /** Own is the DIGIT that is HEARD (NONE: none); answers when its CARRY comes to the next ROPE. */
        private int planRope(int rope, int own, int comes, int most) {
            drives[rope] = 0;
            rests[rope] = 0;
            free = 0;
            sends = NONE;
            int hears = shout * rope;
            boolean carryFirst = comes != NONE && comes < hears;
            if (carryFirst) {
                driveFrom(rope, comes, 1, most);
            }
            if (own != NONE) {
                driveFrom(rope, hears, own, most);
            }
            if (comes != NONE && !carryFirst) {
                driveFrom(rope, comes, 1, most);
            }
            return sends;
        }

        private void driveFrom(int rope, int minute, int by, int most) {
            int begin = Math.max(minute, free);
            boolean carry = !isDigit(digit + by);
            int to = Math.min(carry ? digit + by - 10 : digit + by, most);
            int walks = Math.abs(to - digit);
            int at = 2 * rope + Math.min(drives[rope], 1);
            begins[at] = begin;
            froms[at] = digit;
            tos[at] = to;
            drives[rope]++;
            free = begin + walks * pace;
            digit = to;
            // A DIGIT of 0 is HEARD, too: the ROPE is at rest no sooner.
            rests[rope] = free;
            if (carry) {
                sends = free + dog;
            }
        }

        int lastRest(int ropes) {
            int last = 0;
            for (int rope = 0; rope < ropes && rope < MOST_ROPES; rope++) {
                last = Math.max(last, rests[rope]);
            }
            return last;
        }

        int digitAt(int rope, int atFirst, int minute) {
            int stands = atFirst;
            for (int k = 0; k < drives[rope] && k < 2; k++) {
                int at = 2 * rope + k;
                if (begins[at] <= minute) {
                    int gone = Math.min((minute - begins[at] + 1) / pace, Math.abs(tos[at] - froms[at]));
                    stands = froms[at] + (tos[at] < froms[at] ? -gone : gone);
                }
            }
            return stands;
        }
    }

    /** RELAY, minute by minute. A ROPE makes one CARRY at most, as just one can come to it. */
    private static final class Dogs {
        /** Far above 12 ROPES with two DRIVES of 81 minutes each, all shouts and all ways of the dogs. */
        private static final int MOST_MINUTES = 100_000;
        private final int[] digits = new int[MOST_ROPES];
        private final int[] flock = new int[MOST_ROPES];
        /** The DIGIT that is still to be begun, or NONE. */
        private final int[] own = new int[MOST_ROPES];
        /** How many CARRIES came and are not begun. */
        private final int[] came = new int[MOST_ROPES];
        private final boolean[] busy = new boolean[MOST_ROPES];
        private final int[] ends = new int[MOST_ROPES];
        private final int[] tos = new int[MOST_ROPES];
        private final boolean[] carries = new boolean[MOST_ROPES];
        private final boolean[] waits = new boolean[MOST_ROPES];
        /** The minute in which the CARRY of a ROPE comes to the next one; NONE: it is not on its way. */
        private final int[] comes = new int[MOST_ROPES];
        private int ropes;
        private int shout;
        private int heardLast;
        private int pace;
        private int freeDogs;

        void setOut(Valley valley, int number, int byShout) {
            ropes = Math.min(valley.ropes, MOST_ROPES);
            shout = byShout;
            int top = valley.topRope(number);
            heardLast = top == NONE ? 0 : shout * top;
            for (int rope = 0; rope < ropes; rope++) {
                digits[rope] = valley.digits[rope];
                flock[rope] = valley.flock[rope];
                own[rope] = rope <= top ? digitOf(number, rope) : NONE;
                came[rope] = 0;
                busy[rope] = false;
                carries[rope] = false;
                waits[rope] = false;
                comes[rope] = NONE;
            }
        }

        int minuteOfRest(int dogs, int rank, int byPace, int dog) {
            freeDogs = dogs;
            pace = byPace;
            // With DOG 0, too, a CARRY comes no sooner than in the next minute.
            int away = Math.max(1, dog);
            for (int minute = 0; minute < MOST_MINUTES; minute++) {
                comeBack(minute);
                for (int rope = 0; rope < ropes; rope++) {
                    work(rope, minute);
                }
                sendOut(minute + away, rank);
                if (minute >= heardLast && isAtRest()) {
                    return minute;
                }
            }
            return MOST_MINUTES;
        }

        private void comeBack(int minute) {
            for (int rope = 0; rope < ropes; rope++) {
                if (comes[rope] == minute) {
                    comes[rope] = NONE;
                    freeDogs++;
                    if (rope + 1 < ropes) {
                        came[rope + 1]++;
                    }
                }
            }
        }

        private void work(int rope, int minute) {
            if (busy[rope]) {
                if (ends[rope] != minute) {
                    return;
                }
                endDrive(rope);
            }
            // Its DIGIT and one CARRY are all that a ROPE can begin.
            for (int begun = 0; begun < 3 && !busy[rope]; begun++) {
                int by = nextDrive(rope, minute);
                if (by == NONE) {
                    return;
                }
                beginDrive(rope, by, minute);
            }
        }

        private int nextDrive(int rope, int minute) {
            int by = NONE;
            if (own[rope] != NONE && shout * rope <= minute) {
                by = own[rope];
                own[rope] = NONE;
            } else if (came[rope] > 0) {
                by = 1;
                came[rope]--;
            }
            return by;
        }

        private void beginDrive(int rope, int by, int minute) {
            int should = digits[rope] + by;
            carries[rope] = !isDigit(should);
            tos[rope] = Math.min(carries[rope] ? should - 10 : should, flock[rope]);
            int walks = Math.abs(tos[rope] - digits[rope]);
            busy[rope] = true;
            ends[rope] = minute + walks * pace;
            if (walks == 0) {
                endDrive(rope);
            }
        }

        private void endDrive(int rope) {
            busy[rope] = false;
            digits[rope] = tos[rope];
            if (carries[rope]) {
                waits[rope] = true;
            }
        }

        private void sendOut(int arrival, int rank) {
            for (int turn = 0; turn < ropes && freeDogs > 0; turn++) {
                int rope = rank == 0 ? turn : ropes - 1 - turn;
                if (waits[rope]) {
                    waits[rope] = false;
                    comes[rope] = arrival;
                    freeDogs--;
                }
            }
        }

        private boolean isAtRest() {
            for (int rope = 0; rope < ropes; rope++) {
                if (busy[rope] || waits[rope] || comes[rope] != NONE || came[rope] > 0) {
                    return false;
                }
            }
            return true;
        }
    }

    /** SPAN: the ROPES in FOG, and in how many ways the lowest of them make each rest modulo m. */
    private static final class Veil {
        private final int[] hidden = new int[MOST_FOGS];
        private final int[] ways = new int[(MOST_FOGS + 1) * MOST_MODULUS];
        private int size;
        private int m = 1;
        private long clear;

        void look(Valley valley, int modulus) {
            m = Math.max(1, Math.min(MOST_MODULUS, modulus));
            size = 0;
            clear = 0;
            for (int rope = 0; rope < valley.ropes; rope++) {
                if (!valley.isFoggy(rope)) {
                    clear += valley.seen(rope) * TENS[rope];
                } else if (size < MOST_FOGS) {
                    hidden[size] = rope;
                    size++;
                }
            }
            countWays();
        }

        private void countWays() {
            Arrays.fill(ways, 0);
            ways[0] = 1;
            for (int k = 0; k < size; k++) {
                for (int digit = 0; digit <= 9; digit++) {
                    int shift = restOf(digit * TENS[hidden[k]]);
                    for (int rest = 0; rest < m; rest++) {
                        int then = rest + shift < m ? rest + shift : rest + shift - m;
                        ways[(k + 1) * MOST_MODULUS + then] += ways[k * MOST_MODULUS + rest];
                    }
                }
            }
        }

        private int restOf(long number) {
            return (int) Math.floorMod(number, (long) m);
        }

        int howMany(int r) {
            return ways[size * MOST_MODULUS + restOf(r - clear)];
        }

        /** The least or the greatest, where there is one: the highest ROPE decides first. */
        long outermost(int r, boolean greatest) {
            long number = clear;
            for (int k = size - 1; k >= 0; k--) {
                long weight = TENS[hidden[k]];
                int found = NONE;
                for (int turn = 0; turn <= 9 && found == NONE; turn++) {
                    int digit = greatest ? 9 - turn : turn;
                    if (ways[k * MOST_MODULUS + restOf(r - number - digit * weight)] > 0) {
                        found = digit;
                    }
                }
                number += Math.max(found, 0) * weight;
            }
            return number;
        }
    }
}
