import java.util.NoSuchElementException;

/** Guests round a bowl of wax fruit, told as a text; ../shared/DOC.md says what each call answers. */
public final class WaxBowl {
    public static final int NONE = -1;

    /** What a call answers where the document says -2. */
    private static final int NOT_SO = -2;

    private static final int MOST_BYTES = 700;
    private static final int BYTES_A_FEED = 20;
    private static final int MOST_GUESTS = 6;
    private static final int MOST_FRUITS = 8;
    private static final int MOST_BITES = 8;
    private static final int MOST_KNOTS = 64;
    private static final int MOST_OPEN = 8;
    private static final int MOST_UNDONE = 20;
    private static final int MOST_SEEN = 24;

    private static final int FAINTING = 99;
    private static final int LAST_STEP = 9000;
    private static final int MOST_STEPS = 200;
    private static final int SEARCH_STEPS = 199;
    private static final int HOLD_STEPS = 999;
    private static final int TABLE_STEPS = 40;
    private static final int CALM_STEPS = 30;
    private static final int MOST_SEATINGS = 120;

    /** An E that can't be worked out, or a law that isn't told. */
    private static final long ERROR = Long.MIN_VALUE;
    private static final long MOST_VALUE = 1000000000000L;

    /** The words of the language, in the order of the kinds below. */
    private static final String WORDS = "guest fruit bite near cold seed law praise dare shock or and not manner hunger wit sweet marks there step";
    private static final int WORD_COUNT = 20;
    private static final int GUEST = 0;
    private static final int FRUIT = 1;
    private static final int BITE = 2;
    private static final int NEAR = 3;
    private static final int COLD = 4;
    private static final int SEED = 5;
    private static final int LAW = 6;
    private static final int PRAISE = 7;
    private static final int SHOCK = 9;
    private static final int OR = 10;
    private static final int AND = 11;
    private static final int NOT = 12;
    private static final int MANNER = 13;
    private static final int STEP = 19;
    private static final int LESS = 20;
    private static final int AT_MOST = 21;
    private static final int SAME = 22;
    private static final int OTHER = 23;
    private static final int AT_LEAST = 24;
    private static final int MORE = 25;
    private static final int PLUS = 26;
    private static final int MINUS = 27;
    private static final int TIMES = 28;
    private static final int BY = 29;
    private static final int OPEN = 30;
    private static final int CLOSE = 31;
    private static final int SEMICOLON = 32;
    private static final int NUMBER = 33;
    private static final int OWN_WORD = 34;
    private static final int END = 35;
    private static final int NO_TOKEN = 36;

    /** How tightly signs bind; a comparison stands alone on its level. */
    private static final int COMPARING = 4;

    private static final int WRONG_TOKEN = 1;
    private static final int TOO_MUCH = 2;
    private static final int TOLD_ALREADY = 3;
    private static final int NOT_TOLD = 4;

    private static final int LAW_OF_PRAISE = 0;
    private static final int LAW_OF_DARE = 1;
    private static final int LAW_OF_SHOCK = 2;
    private static final int LAWS = 3;

    private static final int AS_IT_GOES = 0;
    private static final int BY_NUMBERS = 1;
    private static final int NO_DRAUGHTS = 2;

    private static final int SEATED = 0;
    private static final int FED = 1;
    private static final int WOKEN = 2;

    private final byte[] tape = new byte[MOST_BYTES];
    private int tapeLength = 0;
    private Told told = new Told();
    private Told spare = new Told();
    private final Reader reader = new Reader(tape, spare);
    private final Scene now = new Scene();
    private final Scene image = new Scene();
    private final Scene trial = new Scene();
    private boolean hasImage = false;
    private final Course course = new Course(told);
    private final Undos undos = new Undos();
    private final Sights sights = new Sights();
    private final int[] seating = new int[MOST_GUESTS];
    private final int[] bestSeating = new int[MOST_GUESTS];

    public WaxBowl() {
    }

    public int feed(int a, int b, int c, int d, int e) {
        if (tapeLength > MOST_BYTES - BYTES_A_FEED) {
            return NONE;
        }
        putOnTape(a);
        putOnTape(b);
        putOnTape(c);
        putOnTape(d);
        putOnTape(e);
        return tapeLength;
    }

    private void putOnTape(int four) {
        for (int shift = 24; shift >= 0 && tapeLength < MOST_BYTES; shift -= 8) {
            tape[tapeLength] = (byte) (four >> shift);
            tapeLength++;
        }
    }

    public int text(int n) {
        if (n < 0 || n > tapeLength) {
            return NOT_SO;
        }
        tapeLength = 0;
        if (!reader.read(n, spare)) {
            return NONE;
        }
        Told former = told;
        told = spare;
        spare = former;
        now.begin(told);
        sights.clear();
        undos.size = 0;
        hasImage = false;
        return told.lines;
    }

    public int fault(int what) {
        if (what == 0) {
            return reader.fault;
        }
        return what == 1 && reader.fault != 0 ? reader.place : NONE;
    }

    public int named(int what, int letters) {
        if (what == 0) {
            return told.guestNamed(letters);
        }
        return what == 1 ? told.fruitNamed(letters) : NONE;
    }

    public int guest(int guest, int what) throws IndexOutOfBoundsException, NoSuchElementException {
        if (!isGuest(guest)) {
            throw new IndexOutOfBoundsException("no such guest");
        }
        switch (what) {
            case 0:
                return now.manners[guest];
            case 1:
                return now.hunger[guest];
            case 2:
                return told.wit[guest];
            case 3:
                return now.seat[guest];
            case 4:
                return now.hasFainted(guest) ? 0 : 1;
            case 5:
                return plainCourse().hearers(now, guest);
            case 6:
                return now.bit[guest];
            default:
                throw new NoSuchElementException("no such what");
        }
    }

    public int fruit(int fruit, int what) {
        if (!isFruit(fruit)) {
            return NONE;
        }
        switch (what) {
            case 0:
                return told.sweet[fruit];
            case 1:
                return told.real[fruit];
            case 2:
                return now.isEaten(fruit) ? 1 : 0;
            case 3:
                return now.marks[fruit];
            case 4:
                return now.fed[fruit];
            default:
                return NONE;
        }
    }

    public long law(int what, int guest, int fruit) {
        if (what < 0 || what >= LAWS || !isGuest(guest) || !isFruit(fruit)) {
            return ERROR;
        }
        return plainCourse().workOut(what, now, guest, fruit);
    }

    public boolean seat(int one, int other) {
        if (!areTwoGuests(one, other)) {
            return false;
        }
        now.changeSeats(one, other);
        undos.put(SEATED, one, other);
        return true;
    }

    public int bread(int guest, int much) {
        if (!isThere(guest) || much < 1 || much > 99) {
            return NONE;
        }
        undos.put(FED, guest, now.hunger[guest]);
        now.hunger[guest] = Math.max(0, now.hunger[guest] - much);
        return now.hunger[guest];
    }

    public boolean wake(int guest) {
        if (!isGuest(guest) || !now.hasFainted(guest)) {
            return false;
        }
        undos.put(WOKEN, guest, now.hunger[guest]);
        now.comeTo(guest);
        now.hunger[guest] = 50;
        return true;
    }

    public int go(int n) {
        if (n < 0 || n > MOST_STEPS || now.step + n > LAST_STEP) {
            return NONE;
        }
        course.begin(told, BY_NUMBERS);
        course.run(now, n);
        if (n > 0) {
            undos.size = 0;
        }
        return now.step;
    }

    public int ahead(int n, int what, int guest) {
        if (n < 0 || n > MOST_STEPS || what < 0 || what > 4) {
            return NONE;
        }
        if ((what == 2 || what == 3) && !isGuest(guest)) {
            return NONE;
        }
        startTrial();
        course.run(trial, n);
        switch (what) {
            case 0:
                return bitesIn(trial) - bitesIn(now);
            case 1:
                return fallenInTrial();
            case 2:
                return trial.hunger[guest];
            case 3:
                return trial.manners[guest];
            default:
                return fedIn(trial) - fedIn(now);
        }
    }

    public int swoon(int guest) {
        if (!isGuest(guest)) {
            return NONE;
        }
        startTrial();
        for (int i = 0; i <= SEARCH_STEPS; i++) {
            if (trial.hasFainted(guest)) {
                return i;
            }
            course.goOn(trial);
        }
        return NOT_SO;
    }

    public int nextBite(int what) {
        if (what < 0 || what > 1) {
            return NONE;
        }
        startTrial();
        for (int i = 1; i <= SEARCH_STEPS; i++) {
            int biter = course.goOn(trial);
            if (biter != NONE) {
                return what == 0 ? i : biter;
            }
        }
        return NOT_SO;
    }

    public int table(int what) {
        if (what < 0 || what > MOST_GUESTS) {
            return NONE;
        }
        if (what < MOST_GUESTS && what >= told.guests) {
            return NOT_SO;
        }
        firstSeating();
        int fewest = MOST_GUESTS + 1;
        boolean another = true;
        for (int i = 0; i < MOST_SEATINGS && another; i++) {
            int fallen = fallenBySeating(fewest);
            if (fallen < fewest) {
                fewest = fallen;
                System.arraycopy(seating, 0, bestSeating, 0, MOST_GUESTS);
            }
            another = nextSeating();
        }
        return what == MOST_GUESTS ? fewest : bestSeating[what];
    }

    private void firstSeating() {
        int seats = 1;
        for (int g = 0; g < told.guests; g++) {
            if (now.seat[g] == 0) {
                seating[0] = g;
            } else if (seats < MOST_GUESTS) {
                seating[seats] = g;
                seats++;
            }
        }
    }

    /** How many more faint as they sit in seating; it is cut short when no fewer than the bound. */
    private int fallenBySeating(int bound) {
        startTrial();
        for (int s = 0; s < told.guests; s++) {
            trial.seat[seating[s]] = s;
        }
        int fallen = 0;
        for (int i = 0; i < TABLE_STEPS && fallen < bound; i++) {
            course.goOn(trial);
            fallen = fallenInTrial();
        }
        return fallen;
    }

    /** The next order of those behind seat 0, as words in a dictionary; false behind the last one. */
    private boolean nextSeating() {
        int left = told.guests - 2;
        while (left >= 1 && seating[left] > seating[left + 1]) {
            left--;
        }
        if (left < 1) {
            return false;
        }
        int right = told.guests - 1;
        while (right > left && seating[right] < seating[left]) {
            right--;
        }
        exchange(left, right);
        for (int i = left + 1, k = told.guests - 1; i < k; i++, k--) {
            exchange(i, k);
        }
        return true;
    }

    private void exchange(int one, int other) {
        int held = seating[one];
        seating[one] = seating[other];
        seating[other] = held;
    }

    public int hold() {
        startTrial();
        for (int i = 0; i <= HOLD_STEPS; i++) {
            if (course.sitting(trial) == 0) {
                return i;
            }
            course.goOn(trial);
        }
        return NOT_SO;
    }

    public int calm() {
        int best = NOT_SO;
        int sitting = plainCourse().sitting(now);
        for (int away = 0; away < 1 << told.guests; away++) {
            boolean all = (away & ~sitting) == 0;
            if (all && isFewer(away, best) && isCalmWithout(away)) {
                best = away;
            }
        }
        return best;
    }

    private boolean isCalmWithout(int away) {
        startTrial();
        course.away = away;
        for (int i = 0; i < CALM_STEPS; i++) {
            if (course.goOn(trial) != NONE) {
                return false;
            }
        }
        return true;
    }

    private static boolean isFewer(int bits, int best) {
        return best == NOT_SO || Integer.bitCount(bits) < Integer.bitCount(best);
    }

    public int bestFed(int what) {
        if (what < 0 || what > 1) {
            return NONE;
        }
        plainCourse();
        int fruit = course.fruitOnTop(now);
        int best = NOT_SO;
        int most = NOT_SO;
        for (int g = 0; g < told.guests && fruit != NONE; g++) {
            if (!now.hasFainted(g) && course.wouldFeed(now, g, fruit) > most) {
                best = g;
                most = course.wouldFeed(now, g, fruit);
            }
        }
        return what == 0 ? best : most;
    }

    public int rests(int one, int other) {
        if (!areTwoGuests(one, other)) {
            return NONE;
        }
        int found = 0;
        for (int pair = 0; pair < 4; pair++) {
            if (isRest(one, other, pair)) {
                found++;
            }
        }
        return found;
    }

    public int rest(int one, int other, int k) {
        if (!areTwoGuests(one, other) || k < 0) {
            return NONE;
        }
        int found = 0;
        for (int pair = 0; pair < 4; pair++) {
            if (isRest(one, other, pair)) {
                if (found == k) {
                    return pair / 2 * 10 + pair % 2;
                }
                found++;
            }
        }
        return NOT_SO;
    }

    /** Pair: twice what the first one does and what the second one does. */
    private boolean isRest(int one, int other, int pair) {
        int first = pair / 2;
        int second = pair % 2;
        return duelWorth(one, other, first, second) >= duelWorth(one, other, 1 - first, second)
                && duelWorth(other, one, second, first) >= duelWorth(other, one, 1 - second, first);
    }

    /** What a guest has of a duel in which it does mine (1: it bites) and its rival does theirs. */
    private int duelWorth(int guest, int rival, int mine, int theirs) {
        if (mine == 0) {
            return theirs == 0 ? told.wit[rival] : told.wit[guest] - 5;
        }
        return theirs == 0 ? now.hunger[guest] / 5 : -(now.manners[guest] / 20);
    }

    public long warm(int n, int what) {
        if (n < 0 || n > 6 || what < 0 || what > 1) {
            return NONE;
        }
        int without = 100 - told.cold;
        int shared = commonDivisor(without, 100);
        long factor = (what == 0 ? without : 100) / shared;
        long power = 1;
        for (int i = 0; i < n; i++) {
            power *= factor;
        }
        return power;
    }

    /** The greatest number that divides both, one of which is above 0; the bound is far above Euclid's need. */
    private static int commonDivisor(int one, int other) {
        int great = Math.max(one, other);
        int small = Math.min(one, other);
        for (int i = 0; i < 100 && small > 0; i++) {
            int left = great % small;
            great = small;
            small = left;
        }
        return Math.max(1, great);
    }

    public int bowl() {
        int guest = plainCourse().guestAtBowl(now);
        return guest == NONE ? NOT_SO : guest;
    }

    public int uppermost() {
        int fruit = plainCourse().fruitOnTop(now);
        return fruit == NONE ? NOT_SO : fruit;
    }

    public int hungriest() {
        int best = NOT_SO;
        for (int g = 0; g < told.guests; g++) {
            if (!now.hasFainted(g) && (best == NOT_SO || now.hunger[g] > now.hunger[best])) {
                best = g;
            }
        }
        return best;
    }

    public int marked() {
        int bits = 0;
        for (int f = 0; f < told.fruits; f++) {
            if (now.marks[f] > 0) {
                bits |= 1 << f;
            }
        }
        return bits;
    }

    public int apart(int one, int other) {
        if (!isGuest(one) || !isGuest(other)) {
            return NONE;
        }
        return plainCourse().seatsBetween(now, one, other);
    }

    public int eatenIn(int fruit) {
        if (!isFruit(fruit)) {
            return NONE;
        }
        startTrial();
        for (int i = 0; i <= SEARCH_STEPS; i++) {
            if (trial.isEaten(fruit)) {
                return i;
            }
            course.goOn(trial);
        }
        return NOT_SO;
    }

    public int loaf(int guest, int n) {
        if (!isThere(guest) || n < 1 || n > 99) {
            return NONE;
        }
        // More bread than hunger does nothing more, so none above it need be tried.
        int most = Math.min(99, now.hunger[guest]);
        for (int much = 0; much <= most; much++) {
            if (staysBy(guest, much, n)) {
                return much;
            }
        }
        return NOT_SO;
    }

    private boolean staysBy(int guest, int much, int n) {
        startTrial();
        trial.hunger[guest] -= much;
        for (int i = 0; i < n && !trial.hasFainted(guest); i++) {
            course.goOn(trial);
        }
        return !trial.hasFainted(guest);
    }

    public int chain(int one, int other) {
        if (!isThere(one) || !isThere(other)) {
            return NONE;
        }
        return passedOn(one, other, 0);
    }

    public int part(int one, int other) {
        if (!isThere(one) || !isThere(other) || one == other) {
            return NONE;
        }
        int best = NOT_SO;
        int others = plainCourse().sitting(now) & ~(1 << one | 1 << other);
        for (int without = 0; without < 1 << told.guests; without++) {
            boolean all = (without & ~others) == 0;
            if (all && isFewer(without, best) && passedOn(one, other, without) == NOT_SO) {
                best = without;
            }
        }
        return best;
    }

    /** Over how many it comes from one to the other when some are left out; NOT_SO if it never does. */
    private int passedOn(int one, int other, int without) {
        plainCourse();
        int reached = 1 << one;
        for (int far = 0; far < MOST_GUESTS; far++) {
            if ((reached >> other & 1) != 0) {
                return far;
            }
            reached = withHearers(reached) & ~without;
        }
        return NOT_SO;
    }

    private int withHearers(int bits) {
        int all = bits;
        for (int g = 0; g < told.guests; g++) {
            if ((bits >> g & 1) != 0) {
                all |= course.hearers(now, g);
            }
        }
        return all;
    }

    public int rudest() {
        int best = NOT_SO;
        for (int g = 0; g < told.guests; g++) {
            if (!now.hasFainted(g) && (best == NOT_SO || now.manners[g] < now.manners[best])) {
                best = g;
            }
        }
        return best;
    }

    public int grace(int n) {
        if (n < 0 || n > MOST_STEPS) {
            return NONE;
        }
        startTrial();
        course.run(trial, n);
        int sum = 0;
        for (int g = 0; g < told.guests; g++) {
            if (!trial.hasFainted(g)) {
                sum += trial.manners[g];
            }
        }
        return sum;
    }

    public int untouched() {
        int bits = 0;
        for (int f = 0; f < told.fruits; f++) {
            if (!now.isEaten(f) && now.marks[f] == 0) {
                bits |= 1 << f;
            }
        }
        return bits;
    }

    public int see(int steps, int guest, int hunger, boolean atLeast) {
        if (steps < 1 || steps > 99 || !isGuest(guest) || hunger < 0 || hunger > 99) {
            return NONE;
        }
        return sights.put(steps, guest, hunger, atLeast, NONE);
    }

    public int strike(int seen) {
        if (seen < 0 || seen >= sights.size) {
            return NONE;
        }
        return sights.put(0, 0, 0, false, seen);
    }

    public boolean known(int n) {
        if (n < -1 || n > sights.size) {
            return false;
        }
        sights.knownBy = n;
        return true;
    }

    public int sweets(int fruit) {
        if (!isFruit(fruit)) {
            return NONE;
        }
        sights.sift();
        int bits = 0;
        for (int sweet = 0; sweet <= 9; sweet++) {
            if (agrees(fruit, sweet)) {
                bits |= 1 << sweet;
            }
        }
        return bits;
    }

    /** Whether all known ones are so from the text on, the fruit being so sweet. */
    private boolean agrees(int fruit, int sweet) {
        plainCourse();
        course.otherFruit = fruit;
        course.otherSweet = sweet;
        trial.begin(told);
        int last = sights.lastStep();
        for (int i = 0; i < last; i++) {
            course.goOn(trial);
            if (!sights.fits(trial)) {
                return false;
            }
        }
        return true;
    }

    public int chance(int seed, int n, int guest) {
        if (seed < 0 || n < 1 || n > 99 || !isGuest(guest)) {
            return NONE;
        }
        course.begin(told, BY_NUMBERS);
        int number = seed;
        int gone = 0;
        for (int time = 0; time < 10; time++) {
            trial.take(now);
            trial.number = number;
            course.run(trial, n);
            number = trial.number;
            if (trial.hasFainted(guest)) {
                gone++;
            }
        }
        return gone;
    }

    public int tried(int what, int i, int n) {
        if (what < 0 || what > 4 || n < 0 || n > MOST_STEPS) {
            return NONE;
        }
        if (what == 2 ? !isGuest(i) : i != 0) {
            return NONE;
        }
        startTrial();
        switch (what) {
            case 0:
                course.draughts = NO_DRAUGHTS;
                break;
            case 1:
                course.nobodyBites = true;
                break;
            case 2:
                course.silent = i;
                break;
            case 3:
                course.allReal = true;
                break;
            default:
                course.allHear = true;
        }
        course.run(trial, n);
        return fallenInTrial();
    }

    public int undo() {
        return undos.takeBack(now);
    }

    public int keep() {
        image.take(now);
        hasImage = true;
        return now.step;
    }

    public int back() {
        if (!hasImage) {
            return NONE;
        }
        now.take(image);
        undos.size = 0;
        return now.step;
    }

    public int count(int what) {
        switch (what) {
            case 0:
                return told.guests;
            case 1:
                return told.fruits;
            case 2:
                return told.bites;
            case 3:
                return told.laws.knots;
            case 4:
                return now.step;
            case 5:
                return Integer.bitCount(plainCourse().sitting(now));
            case 6:
                return bitesIn(now);
            case 7:
                return Integer.bitCount(now.eaten);
            case 8:
                return fedIn(now);
            case 9:
                return hungerNow();
            case 10:
                return sights.size;
            case 11:
                return sights.knownSize();
            case 12:
                return undos.size;
            default:
                return NONE;
        }
    }

    private boolean isGuest(int guest) {
        return guest >= 0 && guest < told.guests;
    }

    private boolean isFruit(int fruit) {
        return fruit >= 0 && fruit < told.fruits;
    }

    private boolean isThere(int guest) {
        return isGuest(guest) && !now.hasFainted(guest);
    }

    private boolean areTwoGuests(int one, int other) {
        return isGuest(one) && isGuest(other) && one != other;
    }

    private Course plainCourse() {
        course.begin(told, AS_IT_GOES);
        return course;
    }

    /** From now on as it goes, in the scene trial. */
    private void startTrial() {
        plainCourse();
        trial.take(now);
    }

    private int fallenInTrial() {
        return Integer.bitCount(trial.fainted & ~now.fainted);
    }

    private int bitesIn(Scene scene) {
        int sum = 0;
        for (int g = 0; g < told.guests; g++) {
            sum += scene.bit[g];
        }
        return sum;
    }

    private int fedIn(Scene scene) {
        int sum = 0;
        for (int f = 0; f < told.fruits; f++) {
            sum += scene.fed[f];
        }
        return sum;
    }

    private int hungerNow() {
        int sum = 0;
        for (int g = 0; g < told.guests; g++) {
            sum += now.hasFainted(g) ? 0 : now.hunger[g];
        }
        return sum;
    }

    /** What a text tells. */
    private static final class Told {
        int lines = 0;
        int guests = 0;
        int fruits = 0;
        int bites = 0;
        int near = 1;
        int cold = 0;
        int seed = 0;
        final int[] guestNames = new int[MOST_GUESTS];
        final int[] manners = new int[MOST_GUESTS];
        final int[] hunger = new int[MOST_GUESTS];
        final int[] wit = new int[MOST_GUESTS];
        final int[] fruitNames = new int[MOST_FRUITS];
        final int[] sweet = new int[MOST_FRUITS];
        final int[] real = new int[MOST_FRUITS];
        final int[] biters = new int[MOST_BITES];
        final int[] biteSteps = new int[MOST_BITES];
        final Laws laws = new Laws();

        void clear() {
            lines = 0;
            guests = 0;
            fruits = 0;
            bites = 0;
            near = 1;
            cold = 0;
            seed = 0;
            laws.clear();
        }

        int guestNamed(int letters) {
            for (int g = 0; g < guests; g++) {
                if (guestNames[g] == letters) {
                    return g;
                }
            }
            return NONE;
        }

        int fruitNamed(int letters) {
            for (int f = 0; f < fruits; f++) {
                if (fruitNames[f] == letters) {
                    return f;
                }
            }
            return NONE;
        }

        boolean tellsBite(int guest, int step) {
            for (int b = 0; b < bites; b++) {
                if (biters[b] == guest && biteSteps[b] == step) {
                    return true;
                }
            }
            return false;
        }
    }

    /** The E of all laws, values ahead of the signs that join them. */
    private static final class Laws {
        int knots = 0;
        private final boolean[] isTold = new boolean[LAWS];
        private final int[] starts = new int[LAWS];
        private final int[] ends = new int[LAWS];
        private final int[] kinds = new int[MOST_KNOTS];
        private final int[] numbers = new int[MOST_KNOTS];
        private final long[] values = new long[MOST_KNOTS];

        void clear() {
            knots = 0;
            for (int law = 0; law < LAWS; law++) {
                isTold[law] = false;
            }
        }

        boolean has(int law) {
            return isTold[law];
        }

        void open(int law) {
            isTold[law] = true;
            starts[law] = knots;
            ends[law] = knots;
        }

        void add(int law, int kind, int number) {
            if (knots < MOST_KNOTS) {
                kinds[knots] = kind;
                numbers[knots] = number;
                knots++;
                ends[law] = knots;
            }
        }

        /** The value of a law that is told, by what its names stand for, in their order. */
        long work(int law, int[] names) {
            int held = 0;
            for (int k = starts[law]; k < ends[law]; k++) {
                int kind = kinds[k];
                boolean isLeaf = kind == NUMBER || kind >= MANNER && kind <= STEP;
                held += isLeaf ? 1 : kind == NOT ? 0 : -1;
                if (held < 1 || held > MOST_KNOTS) {
                    return ERROR;
                }
                long value;
                if (isLeaf) {
                    value = kind == NUMBER ? numbers[k] : names[kind - MANNER];
                } else if (kind == NOT) {
                    value = values[held - 1] == 0 ? 1 : 0;
                } else {
                    value = held < MOST_KNOTS ? join(kind, values[held - 1], values[held]) : ERROR;
                }
                if (value > MOST_VALUE || value < -MOST_VALUE) {
                    return ERROR;
                }
                values[held - 1] = value;
            }
            return held == 1 ? values[0] : ERROR;
        }

        private static long join(int kind, long left, long right) {
            switch (kind) {
                case PLUS:
                    return left + right;
                case MINUS:
                    return left - right;
                case TIMES:
                    // Two values may be too much for a long together, so it is looked at ahead.
                    long size = left < 0 ? -left : left;
                    long most = size == 0 ? MOST_VALUE : MOST_VALUE / size;
                    return right > most || right < -most ? ERROR : left * right;
                case BY:
                    return right == 0 ? ERROR : left / right;
                case OR:
                    return left != 0 || right != 0 ? 1 : 0;
                case AND:
                    return left != 0 && right != 0 ? 1 : 0;
                case LESS:
                    return left < right ? 1 : 0;
                case AT_MOST:
                    return left <= right ? 1 : 0;
                case SAME:
                    return left == right ? 1 : 0;
                case OTHER:
                    return left != right ? 1 : 0;
                case AT_LEAST:
                    return left >= right ? 1 : 0;
                default:
                    return left > right ? 1 : 0;
            }
        }
    }

    /** The tokens of a text, all found ahead, looked at one by one; the last one is the END. */
    private static final class Tokens {
        int kind = END;
        int place = 0;
        /** A number's value, or a word's letters. */
        int worth = 0;
        private final byte[] tape;
        private int length = 0;
        private int at = 0;
        private int size = 0;
        private int current = 0;
        private final int[] words = new int[WORD_COUNT];
        private final int[] kinds = new int[MOST_BYTES + 1];
        private final int[] places = new int[MOST_BYTES + 1];
        private final int[] worths = new int[MOST_BYTES + 1];

        Tokens(byte[] tape) {
            this.tape = tape;
            int word = 0;
            int letters = 0;
            int code = 0;
            for (int i = 0; i <= WORDS.length() && word < WORD_COUNT; i++) {
                if (i < WORDS.length() && WORDS.charAt(i) != ' ') {
                    code = code * 32 + (WORDS.charAt(i) - 'a' + 1);
                    letters++;
                } else {
                    words[word] = code << 5 * (6 - letters);
                    word++;
                    letters = 0;
                    code = 0;
                }
            }
        }

        /** Finds the tokens of the tape's first n bytes and looks at the first one. */
        void split(int n) {
            length = Math.min(n, tape.length);
            at = 0;
            size = 0;
            kind = NO_TOKEN;
            for (int i = 0; i <= MOST_BYTES && kind != END; i++) {
                find();
                kinds[i] = kind;
                places[i] = place;
                worths[i] = worth;
                size++;
            }
            current = NONE;
            next();
        }

        void next() {
            if (current + 1 < size) {
                current++;
            }
            kind = kinds[current];
            place = places[current];
            worth = worths[current];
        }

        private void find() {
            while (at < length && (signAt(at) == ' ' || signAt(at) == '\n')) {
                at++;
            }
            place = at;
            worth = 0;
            int sign = signAt(at);
            if (sign == NONE) {
                kind = END;
            } else if (isLetter(sign)) {
                readWord();
            } else if (isDigit(sign)) {
                readNumber();
            } else {
                readSign(sign);
            }
        }

        /** The byte at a place; NONE behind the text. */
        private int signAt(int place) {
            return place >= 0 && place < length ? tape[place] & 255 : NONE;
        }

        private static boolean isLetter(int sign) {
            return sign >= 'a' && sign <= 'z';
        }

        private static boolean isDigit(int sign) {
            return sign >= '0' && sign <= '9';
        }

        private void readWord() {
            int letters = 0;
            int code = 0;
            while (at < length && isLetter(signAt(at))) {
                code = letters < 6 ? code * 32 + (signAt(at) - 'a' + 1) : code;
                letters++;
                at++;
            }
            kind = NO_TOKEN;
            if (letters <= 6) {
                worth = code << 5 * (6 - letters);
                kind = kindOfWord(worth);
            }
        }

        private int kindOfWord(int code) {
            for (int w = 0; w < WORD_COUNT; w++) {
                if (words[w] == code) {
                    return w;
                }
            }
            return OWN_WORD;
        }

        private void readNumber() {
            while (at < length && isDigit(signAt(at))) {
                // Beyond every number that may stand: more digits don't matter.
                worth = Math.min(1000000, worth * 10 + (signAt(at) - '0'));
                at++;
            }
            kind = NUMBER;
        }

        private void readSign(int sign) {
            at++;
            kind = kindOfSign(sign);
            int behind = signAt(at);
            if (kind == LESS && behind == '=') {
                kind = AT_MOST;
                at++;
            } else if (kind == LESS && behind == '>') {
                kind = OTHER;
                at++;
            } else if (kind == MORE && behind == '=') {
                kind = AT_LEAST;
                at++;
            }
        }

        private static int kindOfSign(int sign) {
            switch (sign) {
                case '<':
                    return LESS;
                case '>':
                    return MORE;
                case '=':
                    return SAME;
                case '+':
                    return PLUS;
                case '-':
                    return MINUS;
                case '*':
                    return TIMES;
                case '/':
                    return BY;
                case '(':
                    return OPEN;
                case ')':
                    return CLOSE;
                case ';':
                    return SEMICOLON;
                default:
                    return NO_TOKEN;
            }
        }
    }

    /** Reads a text from the tape; the first fault stops it, so it is the first along the text. */
    private static final class Reader {
        int fault = 0;
        int place = 0;
        private final Tokens tokens;
        private Told told;
        private int settled = 0;
        private int law = 0;
        private int knots = 0;
        private int open = 0;
        private int waiting = 0;
        private final int[] signs = new int[MOST_KNOTS + MOST_OPEN];

        Reader(byte[] tape, Told told) {
            tokens = new Tokens(tape);
            this.told = told;
        }

        boolean read(int n, Told into) {
            fault = 0;
            told = into;
            told.clear();
            settled = 0;
            knots = 0;
            tokens.split(n);
            for (int i = 0; i < MOST_BYTES && fault == 0 && tokens.kind != END; i++) {
                readLine();
            }
            return fault == 0;
        }

        private void blame(int what) {
            if (fault == 0) {
                fault = what;
                place = tokens.place;
            }
        }

        private void readLine() {
            switch (tokens.kind) {
                case GUEST:
                    readGuest();
                    break;
                case FRUIT:
                    readFruit();
                    break;
                case BITE:
                    readBite();
                    break;
                case NEAR:
                case COLD:
                case SEED:
                    readSetting(tokens.kind);
                    break;
                case LAW:
                    readLaw();
                    break;
                default:
                    blame(WRONG_TOKEN);
            }
            if (tokens.kind != SEMICOLON) {
                blame(WRONG_TOKEN);
            }
            if (fault == 0) {
                told.lines++;
                tokens.next();
            }
        }

        private void readGuest() {
            int g = told.guests;
            if (g >= MOST_GUESTS) {
                blame(TOO_MUCH);
                return;
            }
            tokens.next();
            told.guestNames[g] = takeNewName(told.guestNamed(tokens.worth));
            told.manners[g] = takeNumber(0, 99);
            told.hunger[g] = takeNumber(0, 98);
            told.wit[g] = takeNumber(0, 9);
            told.guests++;
        }

        private void readFruit() {
            int f = told.fruits;
            if (f >= MOST_FRUITS) {
                blame(TOO_MUCH);
                return;
            }
            tokens.next();
            told.fruitNames[f] = takeNewName(told.fruitNamed(tokens.worth));
            told.sweet[f] = takeNumber(0, 9);
            told.real[f] = takeNumber(0, 1);
            told.fruits++;
        }

        private void readBite() {
            int b = told.bites;
            if (b >= MOST_BITES) {
                blame(TOO_MUCH);
                return;
            }
            tokens.next();
            told.biters[b] = takeGuest();
            told.biteSteps[b] = takeNumber(0, 99);
            told.bites++;
        }

        private void readSetting(int word) {
            if ((settled >> word & 1) != 0) {
                blame(TOLD_ALREADY);
                return;
            }
            settled |= 1 << word;
            tokens.next();
            if (word == NEAR) {
                told.near = takeNumber(1, 5);
            } else if (word == COLD) {
                told.cold = takeNumber(0, 100);
            } else {
                told.seed = takeNumber(0, 99999);
            }
        }

        private void readLaw() {
            tokens.next();
            if (tokens.kind < PRAISE || tokens.kind > SHOCK) {
                blame(WRONG_TOKEN);
                return;
            }
            law = tokens.kind - PRAISE;
            if (told.laws.has(law)) {
                blame(TOLD_ALREADY);
                return;
            }
            told.laws.open(law);
            tokens.next();
            open = 0;
            waiting = 0;
            boolean wantsValue = true;
            boolean ended = false;
            for (int i = 0; i <= MOST_BYTES && fault == 0 && !ended; i++) {
                if (wantsValue) {
                    wantsValue = readTowardsValue();
                } else if (tokens.kind == SEMICOLON && open == 0) {
                    ended = true;
                } else {
                    wantsValue = readBehindValue();
                }
            }
            putDownFrom(1);
        }

        /** The letters of a name that nobody of its kind has yet. */
        private int takeNewName(int bearer) {
            int letters = tokens.worth;
            if (tokens.kind != OWN_WORD) {
                blame(WRONG_TOKEN);
            } else if (bearer != NONE) {
                blame(TOLD_ALREADY);
            }
            goOnIfGood();
            return letters;
        }

        private int takeGuest() {
            int bearer = told.guestNamed(tokens.worth);
            if (tokens.kind != OWN_WORD) {
                blame(WRONG_TOKEN);
            } else if (bearer == NONE) {
                blame(NOT_TOLD);
            }
            goOnIfGood();
            return bearer;
        }

        private int takeNumber(int least, int most) {
            int number = tokens.worth;
            if (tokens.kind != NUMBER) {
                blame(WRONG_TOKEN);
            } else if (number < least || number > most) {
                blame(TOO_MUCH);
            }
            goOnIfGood();
            return number;
        }

        /** A fault's token stays, so that nothing behind it is looked at. */
        private void goOnIfGood() {
            if (fault == 0) {
                tokens.next();
            }
        }

        /** Reads a token where a value is due: whether one is due still. Signs wait until both their sides are put down. */
        private boolean readTowardsValue() {
            int kind = tokens.kind;
            boolean isName = kind >= MANNER && kind <= STEP;
            if (kind == NUMBER || isName) {
                countKnot();
                int number = isName ? 0 : takeNumber(0, 9999);
                told.laws.add(law, kind, number);
                if (isName) {
                    goOnIfGood();
                }
                return false;
            }
            if (kind == OPEN) {
                openOne();
            } else if (kind == NOT && bindingOf(lastWaiting()) < COMPARING) {
                countKnot();
                await(NOT);
            } else {
                blame(WRONG_TOKEN);
            }
            goOnIfGood();
            return true;
        }

        /** Reads a token behind a value: whether another value is due then. */
        private boolean readBehindValue() {
            int kind = tokens.kind;
            if (kind == CLOSE && open > 0) {
                putDownFrom(1);
                waiting--;
                open--;
                goOnIfGood();
                return false;
            }
            int binding = bindingOf(kind);
            if (binding == 0 || kind == NOT) {
                blame(WRONG_TOKEN);
                return false;
            }
            putDownFrom(binding == COMPARING ? COMPARING + 1 : binding);
            if (binding == COMPARING && bindingOf(lastWaiting()) == COMPARING) {
                blame(WRONG_TOKEN);
            }
            countKnot();
            await(kind);
            goOnIfGood();
            return true;
        }

        private void openOne() {
            if (open >= MOST_OPEN) {
                blame(TOO_MUCH);
            } else {
                open++;
                await(OPEN);
            }
        }

        private void countKnot() {
            if (knots >= MOST_KNOTS) {
                blame(TOO_MUCH);
            } else {
                knots++;
            }
        }

        private void await(int sign) {
            if (waiting < signs.length) {
                signs[waiting] = sign;
                waiting++;
            }
        }

        private int lastWaiting() {
            return waiting > 0 && waiting <= signs.length ? signs[waiting - 1] : OPEN;
        }

        /** Puts down the waiting signs that bind so tightly at least, as far as the latest '('. */
        private void putDownFrom(int binding) {
            while (waiting > 0 && bindingOf(lastWaiting()) >= binding) {
                told.laws.add(law, lastWaiting(), 0);
                waiting--;
            }
        }

        /** 0: no sign that joins. */
        private static int bindingOf(int kind) {
            switch (kind) {
                case OR:
                    return 1;
                case AND:
                    return 2;
                case NOT:
                    return 3;
                case LESS:
                case AT_MOST:
                case SAME:
                case OTHER:
                case AT_LEAST:
                case MORE:
                    return COMPARING;
                case PLUS:
                case MINUS:
                    return 5;
                case TIMES:
                case BY:
                    return 6;
                default:
                    return 0;
            }
        }
    }

    /** How things stand at a step. */
    private static final class Scene {
        int step = 0;
        int number = 0;
        /** Guests (bits). */
        int fainted = 0;
        /** Fruits (bits). */
        int eaten = 0;
        final int[] seat = new int[MOST_GUESTS];
        final int[] manners = new int[MOST_GUESTS];
        final int[] hunger = new int[MOST_GUESTS];
        final int[] bit = new int[MOST_GUESTS];
        final int[] marks = new int[MOST_FRUITS];
        final int[] fed = new int[MOST_FRUITS];

        void begin(Told told) {
            step = 0;
            number = told.seed;
            fainted = 0;
            eaten = 0;
            for (int g = 0; g < MOST_GUESTS; g++) {
                seat[g] = g;
                manners[g] = told.manners[g];
                hunger[g] = told.hunger[g];
                bit[g] = 0;
            }
            for (int f = 0; f < MOST_FRUITS; f++) {
                marks[f] = 0;
                fed[f] = 0;
            }
        }

        void take(Scene from) {
            step = from.step;
            number = from.number;
            fainted = from.fainted;
            eaten = from.eaten;
            System.arraycopy(from.seat, 0, seat, 0, MOST_GUESTS);
            System.arraycopy(from.manners, 0, manners, 0, MOST_GUESTS);
            System.arraycopy(from.hunger, 0, hunger, 0, MOST_GUESTS);
            System.arraycopy(from.bit, 0, bit, 0, MOST_GUESTS);
            System.arraycopy(from.marks, 0, marks, 0, MOST_FRUITS);
            System.arraycopy(from.fed, 0, fed, 0, MOST_FRUITS);
        }

        boolean hasFainted(int guest) {
            return (fainted >> guest & 1) != 0;
        }

        void faint(int guest) {
            fainted |= 1 << guest;
        }

        void comeTo(int guest) {
            fainted &= ~(1 << guest);
        }

        boolean isEaten(int fruit) {
            return (eaten >> fruit & 1) != 0;
        }

        void eat(int fruit) {
            eaten |= 1 << fruit;
        }

        void changeSeats(int one, int other) {
            int held = seat[one];
            seat[one] = seat[other];
            seat[other] = held;
        }

        int nextNumber() {
            number = (int) ((number * 1103515245L + 12345L) & 0x7fffffffL);
            return number / 65536;
        }
    }

    /** What a step does, as the text tells it or tried otherwise. */
    private static final class Course {
        int draughts = AS_IT_GOES;
        boolean nobodyBites = false;
        boolean allReal = false;
        boolean allHear = false;
        int silent = NONE;
        /** Guests (bits) that were sent away: their seats are empty. */
        int away = 0;
        int otherFruit = NONE;
        int otherSweet = 0;
        private Told told;
        private final int[] names = new int[STEP - MANNER + 1];

        Course(Told told) {
            this.told = told;
        }

        void begin(Told told, int draughts) {
            this.told = told;
            this.draughts = draughts;
            nobodyBites = false;
            allReal = false;
            allHear = false;
            silent = NONE;
            away = 0;
            otherFruit = NONE;
        }

        void run(Scene scene, int n) {
            for (int i = 0; i < n; i++) {
                goOn(scene);
            }
        }

        /** One step: who bites in it, or NONE. */
        int goOn(Scene scene) {
            int guest = guestAtBowl(scene);
            int fruit = fruitOnTop(scene);
            int biter = NONE;
            if (guest != NONE && fruit != NONE) {
                if (bites(scene, guest, fruit)) {
                    bite(scene, guest, fruit);
                    biter = guest;
                } else if (guest != silent) {
                    praise(scene, guest, fruit);
                }
            }
            growHungry(scene);
            fall(scene);
            scene.step++;
            return biter;
        }

        int guestAtBowl(Scene scene) {
            int at = told.guests > 0 ? scene.step % told.guests : NONE;
            for (int g = 0; g < told.guests; g++) {
                if (scene.seat[g] == at && sits(scene, g)) {
                    return g;
                }
            }
            return NONE;
        }

        int fruitOnTop(Scene scene) {
            return told.fruits > 0 ? scene.step % told.fruits : NONE;
        }

        boolean sits(Scene scene, int guest) {
            return ((scene.fainted | away) >> guest & 1) == 0;
        }

        /** Guests (bits) that sit at the table. */
        int sitting(Scene scene) {
            return (1 << told.guests) - 1 & ~(scene.fainted | away);
        }

        int seatsBetween(Scene scene, int one, int other) {
            int far = Math.abs(scene.seat[one] - scene.seat[other]);
            return Math.min(far, told.guests - far);
        }

        boolean hears(Scene scene, int one, int other) {
            return one != other && sits(scene, one) && sits(scene, other)
                    && (allHear || seatsBetween(scene, one, other) <= told.near);
        }

        /** Guests (bits) that hear one. */
        int hearers(Scene scene, int guest) {
            int bits = 0;
            for (int g = 0; g < told.guests; g++) {
                if (hears(scene, g, guest)) {
                    bits |= 1 << g;
                }
            }
            return bits;
        }

        /** A law's value; ERROR without the law, too. */
        long workOut(int law, Scene scene, int guest, int fruit) {
            if (!told.laws.has(law)) {
                return ERROR;
            }
            names[0] = scene.manners[guest];
            names[1] = scene.hunger[guest];
            names[2] = told.wit[guest];
            names[3] = sweetOf(fruit);
            names[4] = scene.marks[fruit];
            names[5] = Integer.bitCount(sitting(scene));
            names[6] = scene.step;
            return told.laws.work(law, names);
        }

        private int sweetOf(int fruit) {
            return fruit == otherFruit ? otherSweet : told.sweet[fruit];
        }

        private boolean bites(Scene scene, int guest, int fruit) {
            if (nobodyBites) {
                return false;
            }
            if (told.tellsBite(guest, scene.step)) {
                return true;
            }
            long dare = workOut(LAW_OF_DARE, scene, guest, fruit);
            return dare == ERROR ? scene.hunger[guest] > scene.manners[guest] : dare != 0;
        }

        private void bite(Scene scene, int guest, int fruit) {
            scene.bit[guest]++;
            scene.marks[fruit]++;
            if ((allReal || told.real[fruit] == 1) && !scene.isEaten(fruit)) {
                scene.eat(fruit);
                scene.hunger[guest] = 0;
            }
            for (int g = 0; g < told.guests; g++) {
                if (hears(scene, g, guest)) {
                    scene.manners[g] = Math.max(0, scene.manners[g] - shockOf(scene, g, fruit));
                }
            }
        }

        private int shockOf(Scene scene, int guest, int fruit) {
            long shock = workOut(LAW_OF_SHOCK, scene, guest, fruit);
            return shock == ERROR ? 10 : within99(shock);
        }

        private int praiseOf(Scene scene, int guest, int fruit) {
            long praise = workOut(LAW_OF_PRAISE, scene, guest, fruit);
            if (praise == ERROR) {
                return Math.max(0, told.wit[guest] + sweetOf(fruit) - scene.marks[fruit]);
            }
            return within99(praise);
        }

        private static int within99(long value) {
            return (int) Math.max(0, Math.min(99, value));
        }

        private void praise(Scene scene, int guest, int fruit) {
            int much = praiseOf(scene, guest, fruit);
            for (int g = 0; g < told.guests; g++) {
                if (hears(scene, g, guest)) {
                    int less = Math.min(much, scene.hunger[g]);
                    scene.hunger[g] -= less;
                    scene.fed[fruit] += less;
                }
            }
        }

        /** How much a guest's praise of a fruit would feed in sum. */
        int wouldFeed(Scene scene, int guest, int fruit) {
            int much = praiseOf(scene, guest, fruit);
            int sum = 0;
            for (int g = 0; g < told.guests; g++) {
                if (hears(scene, g, guest)) {
                    sum += Math.min(much, scene.hunger[g]);
                }
            }
            return sum;
        }

        private void growHungry(Scene scene) {
            for (int g = 0; g < told.guests; g++) {
                if (sits(scene, g)) {
                    scene.hunger[g] += feelsDraught(scene) ? 3 : 1;
                }
            }
        }

        private boolean feelsDraught(Scene scene) {
            if (draughts == NO_DRAUGHTS) {
                return false;
            }
            if (draughts == AS_IT_GOES) {
                return told.cold >= 50;
            }
            if (told.cold == 0 || told.cold == 100) {
                return told.cold == 100;
            }
            return scene.nextNumber() % 100 < told.cold;
        }

        private void fall(Scene scene) {
            for (int g = 0; g < told.guests; g++) {
                if (sits(scene, g) && scene.hunger[g] >= FAINTING) {
                    scene.faint(g);
                }
            }
        }
    }

    /** What was done by call since the latest step, the latest last. */
    private static final class Undos {
        int size = 0;
        private final int[] deeds = new int[MOST_UNDONE];
        private final int[] ones = new int[MOST_UNDONE];
        private final int[] others = new int[MOST_UNDONE];

        /** Other: the second guest of a change of seats, or the hunger ahead of feeding or waking. */
        void put(int deed, int one, int other) {
            if (size >= MOST_UNDONE) {
                dropOldest();
            }
            deeds[size] = deed;
            ones[size] = one;
            others[size] = other;
            size++;
        }

        private void dropOldest() {
            System.arraycopy(deeds, 1, deeds, 0, MOST_UNDONE - 1);
            System.arraycopy(ones, 1, ones, 0, MOST_UNDONE - 1);
            System.arraycopy(others, 1, others, 0, MOST_UNDONE - 1);
            size = MOST_UNDONE - 1;
        }

        int takeBack(Scene scene) {
            if (size <= 0) {
                return NONE;
            }
            size--;
            int one = ones[size];
            if (deeds[size] == SEATED) {
                scene.changeSeats(one, others[size]);
            } else {
                scene.hunger[one] = others[size];
                if (deeds[size] == WOKEN) {
                    scene.faint(one);
                }
            }
            return size;
        }
    }

    /** What was seen, strikes among it. */
    private static final class Sights {
        int size = 0;
        /** NONE: by all, also those to come. */
        int knownBy = NONE;
        private final int[] steps = new int[MOST_SEEN];
        private final int[] guests = new int[MOST_SEEN];
        private final int[] hungers = new int[MOST_SEEN];
        private final boolean[] atLeasts = new boolean[MOST_SEEN];
        /** Which one a strike strikes; NONE: it is no strike. */
        private final int[] targets = new int[MOST_SEEN];
        private final boolean[] struck = new boolean[MOST_SEEN];

        void clear() {
            size = 0;
            knownBy = NONE;
        }

        int knownSize() {
            return knownBy == NONE ? size : knownBy;
        }

        int put(int step, int guest, int hunger, boolean atLeast, int target) {
            if (size >= MOST_SEEN) {
                return NONE;
            }
            steps[size] = step;
            guests[size] = guest;
            hungers[size] = hunger;
            atLeasts[size] = atLeast;
            targets[size] = target;
            size++;
            return size - 1;
        }

        /** Finds which ones are struck: from the last one on, as only later ones strike. */
        void sift() {
            for (int i = 0; i < MOST_SEEN; i++) {
                struck[i] = false;
            }
            for (int i = knownSize() - 1; i >= 0; i--) {
                if (!struck[i] && targets[i] != NONE) {
                    struck[targets[i]] = true;
                }
            }
        }

        private boolean counts(int i) {
            return targets[i] == NONE && !struck[i];
        }

        int lastStep() {
            int last = 0;
            for (int i = 0; i < knownSize(); i++) {
                if (counts(i)) {
                    last = Math.max(last, steps[i]);
                }
            }
            return last;
        }

        /** Whether all that is known of this step is so in a scene. */
        boolean fits(Scene scene) {
            for (int i = 0; i < knownSize(); i++) {
                boolean asked = counts(i) && steps[i] == scene.step;
                if (asked && (scene.hunger[guests[i]] >= hungers[i]) != atLeasts[i]) {
                    return false;
                }
            }
            return true;
        }
    }
}
