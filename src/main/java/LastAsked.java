import java.util.NoSuchElementException;

/** Beggars inherit: a city of people, who asked whom, who inherits, and what a night brings. */
public final class LastAsked {
    public static final int NONE = -1;

    private static final int PEOPLE = 6;
    private static final int PAIRS = 36;
    private static final int SETS = 64;
    private static final int NEAR = 9;
    private static final int ASKED = 12;
    private static final int HEARD = 3;
    private static final int MOST_GIVE = 3;
    private static final int SPAN = 7;
    private static final int TAPE = 900;
    private static final int FEED = 20;
    private static final int LAST_HOUR = 999;
    private static final int LAST_NIGHT = 999;
    private static final int LAST_SEED = 65536;
    private static final int MOST_NIGHTS = 60;
    private static final int MOST_HAD = 594;
    private static final int MOST_ASKS = 3;
    private static final int MOST_HOURS = 12;
    private static final int MOST_SHAME = 9;
    private static final int KEPT = 16;
    private static final int IMAGES = 3;

    private static final int PLAIN = 0;
    private static final int SHUT = 1;
    private static final int WALLED = 2;
    private static final int DOCTOR = 3;

    private static final int CAT = -2;
    private static final int NEVER = -2;
    private static final int NOBODY = -2;
    private static final int UNTOLD = -3;
    private static final int NO_WAY = 1000;
    private static final int NO_PAYOFF = -100;
    /** 100 to the 6th: a chance in a hundred for each of six people stays a whole number of these. */
    private static final long SURE = 1000000000000L;

    private static final int FINE = 0;
    private static final int NONE_SUCH = 1;
    private static final int A_NUMBER = 2;
    private static final int NO_ROOM = 3;
    private static final int A_FAULT = 4;
    private static final int NOT_SO = 5;
    private static final int THERE_IS_NONE = 6;

    private final Reader tape = new Reader();
    private final City told = new City();
    private final State now = new State();
    private final State then = new State();
    private final Past past = new Past();
    private final Wills wills = new Wills();
    private final Walks walks = new Walks();
    private final Fits guesses = new Fits();
    private int refusal = FINE;
    private int lastFault = 0;

    public LastAsked() {
    }

    // ---- the city

    public int feed(int a, int b, int c, int d, int e) {
        if (tape.fed + FEED > TAPE) {
            return NONE;
        }
        tape.append(a);
        tape.append(b);
        tape.append(c);
        tape.append(d);
        tape.append(e);
        return tape.fed;
    }

    public int city(int n) {
        if (refused(n < 0 || n > tape.fed ? A_NUMBER : FINE)) {
            return NONE;
        }
        lastFault = tape.readCity(n);
        if (refused(lastFault != 0 ? A_FAULT : FINE)) {
            return NONE;
        }
        told.copy(tape.city);
        now.begin(told);
        past.forget();
        return told.people;
    }

    public int fault() {
        return lastFault;
    }

    public int where() {
        return refusal == A_FAULT ? tape.place : NONE;
    }

    // ---- now

    public int person(int p, int what) {
        if (refused(isPerson(p) && what >= 0 && what <= 6 ? FINE : NONE_SUCH)) {
            return NONE;
        }
        switch (what) {
            case 0:
                return told.kind[p];
            case 1:
                return now.has[p];
            case 2:
                return told.chance[p];
            case 3:
                return now.alive(p) ? 1 : 0;
            case 4:
                return told.near[p];
            case 5:
                return askable(p);
            default:
                return askers(p);
        }
    }

    public int register(int p, int of) {
        if (refused(areTwo(p, of) ? FINE : NONE_SUCH)) {
            return NONE;
        }
        return now.register[pair(p, of)];
    }

    public int heir(int of) {
        if (refused(livesOr(of))) {
            return NONE;
        }
        return willsNow().heirs[of];
    }

    public int heirTo(int p) {
        if (refused(isPerson(p) ? FINE : NONE_SUCH)) {
            return NONE;
        }
        return heirsTo(p);
    }

    public int hopes(int p) {
        if (refused(livesOr(p))) {
            return NONE;
        }
        int set = heirsTo(p);
        return hasBehind(p, set);
    }

    public int cat() {
        if (refused(isCity() ? FINE : NONE_SUCH)) {
            return NONE;
        }
        return now.cat;
    }

    public int richest() {
        if (refused(isCity() ? FINE : NONE_SUCH)) {
            return NONE;
        }
        return richestOf(now.living);
    }

    // ---- dying at once

    public int goesTo(int p, int set) {
        if (refused(!isPerson(p) ? NONE_SUCH : isLivingSet(set) && in(set, p) ? FINE : A_NUMBER)) {
            return NONE;
        }
        return willsNow().endOf(p, set);
    }

    public int hasThen(int p, int set) {
        int trouble = livesOr(p);
        if (refused(trouble != FINE ? trouble : isLivingSet(set) ? FINE : A_NUMBER)) {
            return NONE;
        }
        willsNow();
        return hasBehind(p, set);
    }

    public int catThen(int set) {
        if (refused(!isCity() ? NONE_SUCH : isLivingSet(set) ? FINE : A_NUMBER)) {
            return NONE;
        }
        willsNow();
        int sum = 0;
        for (int q = 0; q < PEOPLE; q++) {
            if (in(set, q) && wills.endOf(q, set) == CAT) {
                sum += now.has[q];
            }
        }
        return sum;
    }

    public int rounds() {
        if (refused(isCity() ? FINE : NONE_SUCH)) {
            return NONE;
        }
        willsNow();
        int set = 0;
        for (int p = 0; p < PEOPLE; p++) {
            if (now.alive(p) && wills.comesBack(p)) {
                set |= 1 << p;
            }
        }
        return set;
    }

    public int worthiest() {
        if (refused(isCity() ? FINE : NONE_SUCH)) {
            return NONE;
        }
        willsNow();
        int who = NOBODY;
        int most = 0;
        for (int p = 0; p < PEOPLE; p++) {
            if (now.alive(p) && wills.heirs[p] != CAT && now.has[p] > most) {
                who = p;
                most = now.has[p];
            }
        }
        return who;
    }

    public int plot(int from, int to) {
        if (refused(areTwo(from, to) && now.alive(from) && now.alive(to) ? FINE : NONE_SUCH)) {
            return NONE;
        }
        // HEIRS don't hang on who dies with them, so just those between must die.
        int between = willsNow().between(from, to);
        return between == NONE ? NOBODY : between;
    }

    // ---- a night by chance

    public long mean(int p, boolean lower) {
        if (refused(isPerson(p) ? FINE : NONE_SUCH)) {
            return NONE;
        }
        return term(meanOf(p, now), lower);
    }

    public long odds(int p, int much, boolean lower) {
        boolean fits = much >= 0 && much <= MOST_HAD;
        if (refused(!isPerson(p) ? NONE_SUCH : fits ? FINE : A_NUMBER)) {
            return NONE;
        }
        return term(likelyToHave(p, much), lower);
    }

    public long passes(int from, int to, boolean lower) {
        if (refused(areTwo(from, to) ? FINE : NONE_SUCH)) {
            return NONE;
        }
        int between = willsNow().between(from, to);
        return term(between == NONE ? 0 : likely(between, 1 << to), lower);
    }

    public long catMean(boolean lower) {
        if (refused(isCity() ? FINE : NONE_SUCH)) {
            return NONE;
        }
        willsNow();
        long sum = 0;
        for (int p = 0; p < PEOPLE; p++) {
            if (now.alive(p)) {
                sum += now.has[p] * likely(wills.untilCat(p), 0);
            }
        }
        return term(sum, lower);
    }

    // ---- whom to ask

    public int best(int p, int n) {
        if (refused(seekerOr(p, n >= 1 && n <= MOST_ASKS))) {
            return NONE;
        }
        return bestRow(p, n);
    }

    public long bestMean(int p, int n, boolean lower) {
        if (refused(seekerOr(p, n >= 1 && n <= MOST_ASKS))) {
            return NONE;
        }
        return term(meanByRow(p, bestRow(p, n)), lower);
    }

    public int tour(int p, int n) {
        if (refused(seekerOr(p, n >= 0 && n <= MOST_HOURS))) {
            return NONE;
        }
        return bestTour(p, n);
    }

    public int tourHours(int p, int n) {
        if (refused(seekerOr(p, n >= 0 && n <= MOST_HOURS))) {
            return NONE;
        }
        return walks.hoursFor(bestTour(p, n));
    }

    public int apart(int p, int other) {
        if (refused(isPerson(p) && isPerson(other) ? FINE : NONE_SUCH)) {
            return NONE;
        }
        int hours = told.way[pair(p, other)];
        return hours >= NO_WAY ? NOBODY : hours;
    }

    public int toAsk(int p) {
        if (refused(isPerson(p) ? FINE : NONE_SUCH)) {
            return NONE;
        }
        return richestOf(askable(p) & ~heirsTo(p));
    }

    public int rivals(int p, int of) {
        if (refused(!areTwo(p, of) ? NONE_SUCH : now.alive(of) ? FINE : NOT_SO)) {
            return NONE;
        }
        int hour = now.register[pair(p, of)];
        if (!now.alive(p) || hour == NEVER) {
            return NOBODY;
        }
        int set = 0;
        for (int q = 0; q < PEOPLE; q++) {
            int other = now.register[pair(q, of)];
            if (q != p && now.alive(q) && (other > hour || other == hour && q < p)) {
                set |= 1 << q;
            }
        }
        return set;
    }

    // ---- hours that aren't sure

    public int fits() {
        if (refused(isCity() ? FINE : NONE_SUCH)) {
            return NONE;
        }
        return guesses.countAll(told);
    }

    public int fitAt(int i, int k) {
        if (refused(isCity() && i >= 0 && k >= 0 && k < told.heards ? FINE : NONE_SUCH)) {
            return NONE;
        }
        int code = guesses.find(told, i);
        if (refused(code == NONE ? NONE_SUCH : FINE)) {
            return NONE;
        }
        return guesses.hourBy(code, k);
    }

    public int heirBy(int p, int of) {
        if (refused(areTwo(p, of) ? FINE : NONE_SUCH)) {
            return NONE;
        }
        return guesses.countHeir(told, p, of);
    }

    public int look() {
        if (refused(isCity() ? FINE : NONE_SUCH)) {
            return NONE;
        }
        return guesses.whichToLookAt(told);
    }

    public int lookLeaves() {
        if (refused(isCity() ? FINE : NONE_SUCH)) {
            return NONE;
        }
        int which = guesses.whichToLookAt(told);
        return which == NOBODY ? NOBODY : guesses.leftAtMost(which);
    }

    public int judge() {
        if (refused(isCity() ? FINE : NONE_SUCH)) {
            return NONE;
        }
        wills.read(told.register, told.everybody());
        for (int p = 0; p < PEOPLE; p++) {
            if (told.wentTo[p] != UNTOLD && told.wentTo[p] != wills.heirs[p]) {
                return p;
            }
        }
        return NOBODY;
    }

    // ---- rich and beggar

    public int begs(int shame, boolean gives, boolean asks, boolean ofBeggar) {
        if (refused(shameOr(shame))) {
            return NO_PAYOFF;
        }
        return payoff(shame, gives, asks, ofBeggar);
    }

    public int rests(int shame) {
        if (refused(shameOr(shame))) {
            return NONE;
        }
        int count = 0;
        for (int pair = 0; pair < 4; pair++) {
            if (isRest(shame, pair >= 2, pair % 2 == 1)) {
                count++;
            }
        }
        return count;
    }

    public int rest(int shame) {
        if (refused(shameOr(shame))) {
            return NONE;
        }
        for (int pair = 0; pair < 4; pair++) {
            if (isRest(shame, pair >= 2, pair % 2 == 1)) {
                return pair / 2 * 10 + pair % 2;
            }
        }
        return NOBODY;
    }

    // ---- nights by draws

    public int nights(int p, int seed, int n) {
        if (refused(isPerson(p) ? drawsOr(seed, n) : NONE_SUCH)) {
            return NONE;
        }
        sleep(seed, n);
        return then.has[p];
    }

    public int lives(int seed, int n) {
        if (refused(drawsOr(seed, n))) {
            return NONE;
        }
        sleep(seed, n);
        return then.living;
    }

    public int firstCat(int seed, int n) {
        if (refused(drawsOr(seed, n))) {
            return NONE;
        }
        then.copy(now);
        then.seed = seed;
        for (int i = 1; i <= n; i++) {
            passNight(then);
            if (then.cat > now.cat) {
                return i;
            }
        }
        return NOBODY;
    }

    // ---- acts

    public int ask(int p, int of) {
        if (refused(askTrouble(p, of))) {
            return NONE;
        }
        past.keep(now);
        return now.give(p, of, told.gives);
    }

    public int die(int p) {
        if (refused(livesOr(p))) {
            return NONE;
        }
        past.keep(now);
        int heir = willsNow().heirs[p];
        now.leave(1 << p, wills);
        return heir;
    }

    public int night() {
        if (refused(!isCity() ? NONE_SUCH : now.nights >= LAST_NIGHT ? NO_ROOM : FINE)) {
            return NONE;
        }
        past.keep(now);
        now.nights++;
        return passNight(now);
    }

    public boolean seed(int v) {
        if (refused(!isCity() ? NONE_SUCH : v >= 0 && v <= LAST_SEED ? FINE : A_NUMBER)) {
            return false;
        }
        now.seed = v;
        return true;
    }

    public boolean undo() {
        return !refused(past.takeBack(now) ? FINE : THERE_IS_NONE);
    }

    public int image() {
        if (refused(!isCity() ? NONE_SUCH : past.images >= IMAGES ? NO_ROOM : FINE)) {
            return NONE;
        }
        return past.addImage(now);
    }

    public boolean back(int image) {
        return !refused(past.showImage(image, now) ? FINE : NONE_SUCH);
    }

    // ---- what is told

    public int led(int i) throws NoSuchElementException {
        willsNow();
        int left = i;
        for (int p = 0; p < PEOPLE; p++) {
            if (now.alive(p) && wills.heirs[p] == CAT) {
                if (left == 0) {
                    return p;
                }
                left--;
            }
        }
        throw new NoSuchElementException();
    }

    public int size(int what) {
        switch (what) {
            case 0:
                return now.hour;
            case 1:
                return told.gives;
            case 2:
                return told.people;
            case 3:
                return told.nears;
            case 4:
                return told.askeds;
            case 5:
                return told.heards;
            case 6:
                return told.wents;
            case 7:
                return Integer.bitCount(now.living);
            case 8:
                return now.nights;
            case 9:
                return now.seed;
            case 10:
                return past.acts;
            case 11:
                return past.images;
            case 12:
                return tape.fed;
            default:
                return NONE;
        }
    }

    public int trouble() {
        return refusal;
    }

    // ---- what may be refused

    private boolean refused(int number) {
        refusal = number;
        return number != FINE;
    }

    private boolean isCity() {
        return told.people > 0;
    }

    private boolean isPerson(int p) {
        return p >= 0 && p < told.people && p < PEOPLE;
    }

    private boolean areTwo(int p, int other) {
        return isPerson(p) && isPerson(other) && p != other;
    }

    private boolean isLivingSet(int set) {
        return (set & ~now.living) == 0;
    }

    private int livesOr(int p) {
        return !isPerson(p) ? NONE_SUCH : now.alive(p) ? FINE : NOT_SO;
    }

    private int seekerOr(int p, boolean fits) {
        return !isPerson(p) ? NONE_SUCH : !fits ? A_NUMBER : now.alive(p) ? FINE : NOT_SO;
    }

    private int shameOr(int shame) {
        return !isCity() ? NONE_SUCH : shame >= 0 && shame <= MOST_SHAME ? FINE : A_NUMBER;
    }

    private int drawsOr(int seed, int n) {
        boolean fits = seed >= 0 && seed <= LAST_SEED && n >= 0 && n <= MOST_NIGHTS;
        return !isCity() ? NONE_SUCH : fits ? FINE : A_NUMBER;
    }

    private int askTrouble(int p, int of) {
        if (!areTwo(p, of)) {
            return NONE_SUCH;
        }
        if (!now.alive(p) || !now.alive(of)) {
            return NOT_SO;
        }
        if (!told.allows(p, of)) {
            return THERE_IS_NONE;
        }
        return now.hour >= LAST_HOUR ? NO_ROOM : FINE;
    }

    // ---- who asks, who has

    private static boolean in(int set, int p) {
        return p >= 0 && p < PEOPLE && (set >> p & 1) == 1;
    }

    /** Where the REGISTER has it that p asked another one; both are people. */
    private static int pair(int p, int of) {
        return p * PEOPLE + of;
    }

    /** Whom p can ASK: the dead neither ask nor are asked. */
    private int askable(int p) {
        int set = 0;
        for (int q = 0; q < PEOPLE; q++) {
            if (now.alive(p) && now.alive(q) && told.allows(p, q)) {
                set |= 1 << q;
            }
        }
        return set;
    }

    private int askers(int of) {
        int set = 0;
        for (int q = 0; q < PEOPLE; q++) {
            if (now.alive(of) && now.alive(q) && told.allows(q, of)) {
                set |= 1 << q;
            }
        }
        return set;
    }

    private int richestOf(int set) {
        int who = NOBODY;
        int most = -1;
        for (int p = 0; p < PEOPLE; p++) {
            if (in(set, p) && now.has[p] > most) {
                who = p;
                most = now.has[p];
            }
        }
        return who;
    }

    private Wills willsNow() {
        wills.read(now.register, now.living);
        return wills;
    }

    private int heirsTo(int p) {
        willsNow();
        int set = 0;
        for (int q = 0; q < PEOPLE; q++) {
            if (now.alive(q) && wills.heirs[q] == p) {
                set |= 1 << q;
            }
        }
        return set;
    }

    /** By the wills read latest, which are those of NOW. */
    private int hasBehind(int p, int dying) {
        if (in(dying, p)) {
            return 0;
        }
        int sum = now.has[p];
        for (int q = 0; q < PEOPLE; q++) {
            if (in(dying, q) && wills.endOf(q, dying) == p) {
                sum += now.has[q];
            }
        }
        return sum;
    }

    // ---- chances, of SURE in all

    /** How likely all of one set die and all of another one don't. */
    private long likely(int dying, int staying) {
        long product = 1;
        for (int p = 0; p < PEOPLE; p++) {
            if (in(dying, p)) {
                product *= told.chance[p];
            } else if (in(staying, p)) {
                product *= 100 - told.chance[p];
            } else {
                product *= 100;
            }
        }
        return product;
    }

    /** Each one's share comes to p if all between them die and p doesn't: the means of these add up. */
    private long meanOf(int p, State state) {
        wills.read(state.register, state.living);
        long sum = 0;
        for (int q = 0; q < PEOPLE; q++) {
            int between = state.alive(p) && state.alive(q) ? wills.between(q, p) : NONE;
            if (between != NONE) {
                sum += state.has[q] * likely(between, 1 << p);
            }
        }
        return sum;
    }

    private long likelyToHave(int p, int much) {
        if (much == 0) {
            return SURE;
        }
        if (!now.alive(p)) {
            return 0;
        }
        willsNow();
        long sum = 0;
        for (int dying = 0; dying < SETS; dying++) {
            if (isLivingSet(dying) && !in(dying, p) && hasBehind(p, dying) >= much) {
                sum += likely(dying, now.living & ~dying);
            }
        }
        return sum;
    }

    private static long term(long parts, boolean lower) {
        long common = commonDivisor(SURE, parts);
        if (common <= 0) {
            return NONE;
        }
        return lower ? SURE / common : parts / common;
    }

    private static long commonDivisor(long a, long b) {
        long x = a;
        long y = b;
        for (int i = 0; i < 200 && y != 0; i++) {
            long left = x % y;
            x = y;
            y = left;
        }
        return x;
    }

    // ---- the best to ask

    private int bestRow(int p, int n) {
        int rows = 1;
        for (int i = 0; i < n && i < MOST_ASKS; i++) {
            rows *= 10;
        }
        int can = askable(p);
        int best = 0;
        long most = -1;
        for (int row = 0; row < rows; row++) {
            long mean = mayBeFirst(can, row) ? meanByRow(p, row) : -1;
            if (mean > most) {
                best = row;
                most = mean;
            }
        }
        return best;
    }

    /** The order of one's asks doesn't change his mean, so of like rows the one with rising digits is the first. */
    private static boolean mayBeFirst(int can, int row) {
        int behind = 9;
        for (int left = row; left > 0; left /= 10) {
            int digit = left % 10;
            if (digit > behind || digit != 0 && !in(can, digit - 1)) {
                return false;
            }
            behind = digit;
        }
        return true;
    }

    private long meanByRow(int p, int row) {
        then.copy(now);
        for (int unit = 100; unit > 0; unit /= 10) {
            int digit = row / unit % 10;
            if (digit > 0 && digit <= PEOPLE) {
                then.give(p, digit - 1, told.gives);
            }
        }
        return meanOf(p, then);
    }

    private int bestTour(int p, int n) {
        walks.measure(p, told.way);
        int can = askable(p);
        int best = 0;
        long most = -1;
        for (int set = 0; set < SETS; set++) {
            boolean fits = (set & ~can) == 0 && walks.hoursFor(set) <= n;
            long mean = fits ? meanByTour(p, set) : -1;
            if (mean > most) {
                best = set;
                most = mean;
            }
        }
        return best;
    }

    private long meanByTour(int p, int set) {
        then.copy(now);
        for (int q = 0; q < PEOPLE; q++) {
            if (in(set, q)) {
                then.give(p, q, told.gives);
            }
        }
        return meanOf(p, then);
    }

    // ---- rich and beggar, by what each has

    private static int payoff(int shame, boolean gives, boolean asks, boolean ofBeggar) {
        if (!asks) {
            return gives && !ofBeggar ? 1 : 0;
        }
        if (gives) {
            return ofBeggar ? 4 : -2;
        }
        return ofBeggar ? -1 : -shame;
    }

    private static boolean isRest(int shame, boolean gives, boolean asks) {
        return payoff(shame, gives, asks, false) >= payoff(shame, !gives, asks, false)
            && payoff(shame, gives, asks, true) >= payoff(shame, gives, !asks, true);
    }

    // ---- nights

    private void sleep(int seed, int n) {
        then.copy(now);
        then.seed = seed;
        for (int i = 0; i < n; i++) {
            passNight(then);
        }
    }

    private int passNight(State state) {
        int dying = 0;
        for (int p = 0; p < PEOPLE; p++) {
            if (state.alive(p) && state.draw() % 100 < told.chance[p]) {
                dying |= 1 << p;
            }
        }
        wills.read(state.register, state.living);
        state.leave(dying, wills);
        return dying;
    }

    /** A CITY as its text told it: no ACT changes it. */
    private static final class City {
        int hour = 0;
        int gives = 0;
        int people = 0;
        int nears = 0;
        int askeds = 0;
        int heards = 0;
        int wents = 0;
        final int[] kind = new int[PEOPLE];
        final int[] has = new int[PEOPLE];
        final int[] chance = new int[PEOPLE];
        final int[] near = new int[PEOPLE];
        final int[] wentTo = new int[PEOPLE];
        final int[] register = new int[PAIRS];
        final int[] way = new int[PAIRS];
        final int[] heardPair = new int[HEARD];
        final int[] heardAt = new int[HEARD];
        final int[] heardGive = new int[HEARD];

        void clear() {
            hour = 0;
            gives = 0;
            people = 0;
            nears = 0;
            askeds = 0;
            heards = 0;
            wents = 0;
            for (int p = 0; p < PEOPLE; p++) {
                near[p] = 0;
                wentTo[p] = UNTOLD;
            }
            for (int i = 0; i < PAIRS; i++) {
                register[i] = NEVER;
            }
        }

        void copy(City other) {
            hour = other.hour;
            gives = other.gives;
            people = other.people;
            nears = other.nears;
            askeds = other.askeds;
            heards = other.heards;
            wents = other.wents;
            System.arraycopy(other.kind, 0, kind, 0, PEOPLE);
            System.arraycopy(other.has, 0, has, 0, PEOPLE);
            System.arraycopy(other.chance, 0, chance, 0, PEOPLE);
            System.arraycopy(other.near, 0, near, 0, PEOPLE);
            System.arraycopy(other.wentTo, 0, wentTo, 0, PEOPLE);
            System.arraycopy(other.register, 0, register, 0, PAIRS);
            System.arraycopy(other.way, 0, way, 0, PAIRS);
            System.arraycopy(other.heardPair, 0, heardPair, 0, HEARD);
            System.arraycopy(other.heardAt, 0, heardAt, 0, HEARD);
            System.arraycopy(other.heardGive, 0, heardGive, 0, HEARD);
        }

        int everybody() {
            return (1 << people) - 1;
        }

        /** By their KINDS and houses alone. */
        boolean allows(int p, int of) {
            return p != of && kind[p] != DOCTOR && kind[of] != SHUT
                && (kind[of] != WALLED || in(near[of], p));
        }

        void measureWays() {
            for (int i = 0; i < PAIRS; i++) {
                int from = i / PEOPLE;
                int to = i % PEOPLE;
                way[i] = from == to ? 0 : in(near[from], to) ? 1 : NO_WAY;
            }
            for (int by = 0; by < PEOPLE; by++) {
                for (int i = 0; i < PAIRS; i++) {
                    int round = way[pair(i / PEOPLE, by)] + way[pair(by, i % PEOPLE)];
                    way[i] = Math.min(way[i], round);
                }
            }
        }
    }

    /** What is so NOW, was so, or would be so. */
    private static final class State {
        int hour = 0;
        int seed = 0;
        int nights = 0;
        int cat = 0;
        int living = 0;
        final int[] has = new int[PEOPLE];
        final int[] register = new int[PAIRS];

        void begin(City city) {
            hour = city.hour;
            seed = 0;
            nights = 0;
            cat = 0;
            living = city.everybody();
            System.arraycopy(city.has, 0, has, 0, PEOPLE);
            System.arraycopy(city.register, 0, register, 0, PAIRS);
        }

        void copy(State other) {
            hour = other.hour;
            seed = other.seed;
            nights = other.nights;
            cat = other.cat;
            living = other.living;
            System.arraycopy(other.has, 0, has, 0, PEOPLE);
            System.arraycopy(other.register, 0, register, 0, PAIRS);
        }

        boolean alive(int p) {
            return in(living, p);
        }

        /** ASK: how much is given. */
        int give(int p, int of, int gives) {
            hour++;
            register[pair(p, of)] = hour;
            int much = Math.min(gives, has[of]);
            has[of] -= much;
            has[p] += much;
            return much;
        }

        int draw() {
            seed = (75 * seed + 74) % 65537;
            return seed;
        }

        /** Some die at once, by the wills there were ahead. */
        void leave(int dying, Wills wills) {
            for (int p = 0; p < PEOPLE; p++) {
                if (in(dying, p)) {
                    int all = has[p];
                    has[p] = 0;
                    int end = wills.endOf(p, dying);
                    if (end == CAT) {
                        cat += all;
                    } else {
                        has[end] += all;
                    }
                }
            }
            living &= ~dying;
        }
    }

    /** The HEIR of each who lives, by one REGISTER; the CAT for the dead, who leave nothing. */
    private static final class Wills {
        final int[] heirs = new int[PEOPLE];

        void read(int[] register, int living) {
            for (int p = 0; p < PEOPLE; p++) {
                heirs[p] = in(living, p) ? latest(register, living, p) : CAT;
            }
        }

        static int latest(int[] register, int living, int of) {
            int who = CAT;
            int hour = NEVER;
            for (int p = 0; p < PEOPLE; p++) {
                if (p != of && in(living, p) && register[pair(p, of)] > hour) {
                    who = p;
                    hour = register[pair(p, of)];
                }
            }
            return who;
        }

        /** To whom all of p, who is dying, goes in the end. */
        int endOf(int p, int dying) {
            int had = 0;
            int at = p;
            for (int i = 0; i < PEOPLE; i++) {
                had |= 1 << at;
                at = heirs[at];
                if (at == CAT || in(had, at)) {
                    return CAT;
                }
                if (!in(dying, at)) {
                    return at;
                }
            }
            return CAT;
        }

        /** Those who must die that all of one comes to another one; NONE if it never does. */
        int between(int from, int to) {
            int dying = 0;
            int at = from;
            for (int i = 0; i < PEOPLE && at != CAT; i++) {
                if (at == to) {
                    return dying;
                }
                dying |= 1 << at;
                at = heirs[at];
            }
            return NONE;
        }

        /** Those who must die that the CAT has all of one. */
        int untilCat(int from) {
            int dying = 0;
            int at = from;
            for (int i = 0; i < PEOPLE && at != CAT; i++) {
                dying |= 1 << at;
                at = heirs[at];
            }
            return dying;
        }

        boolean comesBack(int p) {
            int at = heirs[p];
            for (int i = 0; i < PEOPLE && at != CAT; i++) {
                if (at == p) {
                    return true;
                }
                at = heirs[at];
            }
            return false;
        }
    }

    /** The fewest hours from one house to each set of houses, the last one of the set told. */
    private static final class Walks {
        private final int[] least = new int[SETS * PEOPLE];

        void measure(int from, int[] way) {
            for (int set = 1; set < SETS; set++) {
                for (int last = 0; last < PEOPLE; last++) {
                    least[set * PEOPLE + last] = in(set, last) ? leastTo(from, set, last, way) : NO_WAY;
                }
            }
        }

        private int leastTo(int from, int set, int last, int[] way) {
            int others = set & ~(1 << last);
            if (others == 0) {
                return way[pair(from, last)];
            }
            int hours = NO_WAY;
            for (int q = 0; q < PEOPLE; q++) {
                if (in(others, q)) {
                    hours = Math.min(hours, least[others * PEOPLE + q] + way[pair(q, last)]);
                }
            }
            return hours;
        }

        /** From the house measured latest; the set is one of SETS. */
        int hoursFor(int set) {
            if (set <= 0 || set >= SETS) {
                return 0;
            }
            int hours = NO_WAY;
            for (int last = 0; last < PEOPLE; last++) {
                hours = Math.min(hours, least[set * PEOPLE + last]);
            }
            return hours;
        }
    }

    /** FITS: each choice of hours for the heard ones has a code, the first one's hour counting most. */
    private static final class Fits {
        private int codes = 1;
        private final int[] first = new int[HEARD];
        private final int[] span = new int[HEARD];
        private final int[] weight = new int[HEARD];
        private final int[] register = new int[PAIRS];
        private final int[] tally = new int[HEARD * SPAN];

        private void open(City city) {
            codes = 1;
            System.arraycopy(city.register, 0, register, 0, PAIRS);
            for (int k = HEARD - 1; k >= 0; k--) {
                boolean heard = k < city.heards;
                first[k] = heard ? Math.max(0, city.heardAt[k] - city.heardGive[k]) : 0;
                span[k] = heard ? city.heardAt[k] + city.heardGive[k] - first[k] + 1 : 1;
                weight[k] = codes;
                codes *= span[k];
            }
        }

        /** By a code of the CITY seen latest. */
        int hourBy(int code, int k) {
            if (k < 0 || k >= HEARD || weight[k] <= 0 || span[k] <= 0) {
                return NONE;
            }
            return first[k] + code / weight[k] % span[k];
        }

        private boolean holds(City city, int code) {
            for (int k = 0; k < city.heards; k++) {
                register[city.heardPair[k]] = hourBy(code, k);
            }
            for (int p = 0; p < PEOPLE; p++) {
                int to = city.wentTo[p];
                if (to != UNTOLD && to != Wills.latest(register, city.everybody(), p)) {
                    return false;
                }
            }
            return true;
        }

        int countAll(City city) {
            open(city);
            int count = 0;
            for (int code = 0; code < codes; code++) {
                if (holds(city, code)) {
                    count++;
                }
            }
            return count;
        }

        /** The code of the i-th; NONE if there aren't so many. */
        int find(City city, int i) {
            open(city);
            int left = i;
            for (int code = 0; code < codes; code++) {
                if (holds(city, code)) {
                    if (left == 0) {
                        return code;
                    }
                    left--;
                }
            }
            return NONE;
        }

        int countHeir(City city, int p, int of) {
            open(city);
            int count = 0;
            for (int code = 0; code < codes; code++) {
                if (holds(city, code) && Wills.latest(register, city.everybody(), of) == p) {
                    count++;
                }
            }
            return count;
        }

        /** LOOK; the tally is left for leftAtMost. */
        int whichToLookAt(City city) {
            open(city);
            if (countByHours(city) == 0) {
                return NOBODY;
            }
            int which = NOBODY;
            int fewest = codes + 1;
            for (int k = 0; k < city.heards; k++) {
                int left = leftAtMost(k);
                if (left < fewest) {
                    which = k;
                    fewest = left;
                }
            }
            return which;
        }

        private int countByHours(City city) {
            int count = 0;
            for (int i = 0; i < HEARD * SPAN; i++) {
                tally[i] = 0;
            }
            for (int code = 0; code < codes; code++) {
                if (holds(city, code)) {
                    count++;
                    for (int k = 0; k < city.heards; k++) {
                        tally[k * SPAN + hourBy(code, k) - first[k]]++;
                    }
                }
            }
            return count;
        }

        int leftAtMost(int k) {
            int most = 0;
            for (int i = 0; i < SPAN; i++) {
                most = Math.max(most, tally[k * SPAN + i]);
            }
            return most;
        }
    }

    /** ACTS to undo, the latest ones in a ring, and IMAGES. */
    private static final class Past {
        int acts = 0;
        int images = 0;
        private int next = 0;
        private final State[] ahead = new State[KEPT];
        private final State[] seen = new State[IMAGES];

        Past() {
            for (int i = 0; i < KEPT; i++) {
                ahead[i] = new State();
            }
            for (int i = 0; i < IMAGES; i++) {
                seen[i] = new State();
            }
        }

        void forget() {
            acts = 0;
            images = 0;
        }

        void keep(State state) {
            ahead[next].copy(state);
            next = (next + 1) % KEPT;
            acts = Math.min(KEPT, acts + 1);
        }

        boolean takeBack(State state) {
            if (acts == 0) {
                return false;
            }
            acts--;
            next = (next + KEPT - 1) % KEPT;
            state.copy(ahead[next]);
            return true;
        }

        int addImage(State state) {
            if (images >= IMAGES) {
                return NONE;
            }
            seen[images].copy(state);
            images++;
            return images - 1;
        }

        boolean showImage(int image, State state) {
            if (image < 0 || image >= images) {
                return false;
            }
            state.copy(seen[image]);
            acts = 0;
            return true;
        }
    }

    /** THE TAPE, and who reads the text of a CITY on it from left to right and stops at the first FAULT. */
    private static final class Reader {
        private static final int END = 0;
        private static final int WORD = 1;
        private static final int WHOLE = 2;
        private static final int MARK = 3;
        private static final int BAD = 4;
        private static final int LONGEST_WORD = 8;
        private static final int LONGEST_WHOLE = 3;

        // A WORD has up to 8 bytes, so it is its own number in a long.
        private static final long CITY_WORD = 0x63697479L;
        private static final long PERSON_WORD = 0x706572736F6EL;
        private static final long NEAR_WORD = 0x6E656172L;
        private static final long ASKED_WORD = 0x61736B6564L;
        private static final long HEARD_WORD = 0x6865617264L;
        private static final long WENT_WORD = 0x77656E74L;
        private static final long CAT_WORD = 0x636174L;
        private static final long HOUR_WORD = 0x686F7572L;
        private static final long GIVES_WORD = 0x6769766573L;
        private static final long HAS_WORD = 0x686173L;
        private static final long DIES_WORD = 0x64696573L;
        private static final long AT_WORD = 0x6174L;
        private static final long GIVE_WORD = 0x67697665L;
        private static final long PLAIN_WORD = 0x706C61696EL;
        private static final long SHUT_WORD = 0x73687574L;
        private static final long WALLED_WORD = 0x77616C6C6564L;
        private static final long DOCTOR_WORD = 0x646F63746F72L;

        int fed = 0;
        int place = 0;
        final City city = new City();
        private int found = 0;
        private final byte[] text = new byte[TAPE];
        private int length = 0;
        private int sort = END;
        private int start = 0;
        private int end = 0;
        private int value = 0;
        private long word = 0;
        private boolean begun = false;
        private final long[] names = new long[PEOPLE];

        /** The caller has seen that there is room. */
        void append(int number) {
            for (int shift = 24; shift >= 0 && fed < TAPE; shift -= 8) {
                text[fed] = (byte) (number >> shift);
                fed++;
            }
        }

        /** The FAULT of the first n bytes, or 0; its place is kept, and the CITY as far as it was read. */
        int readCity(int n) {
            length = Math.min(n, fed);
            fed = 0;
            city.clear();
            end = 0;
            found = 0;
            place = 0;
            begun = false;
            boolean goesOn = true;
            for (int i = 0; i < TAPE && goesOn; i++) {
                goesOn = readLine() && step() == MARK;
            }
            if (found == 0 && sort != END) {
                spoil(1);
            }
            if (found == 0 && city.people == 0) {
                spoil(6);
            }
            city.measureWays();
            return found;
        }

        /** Each FAULT is met at the TOKEN that stands here: the end's place is the length. */
        private boolean spoil(int number) {
            found = number;
            place = start;
            return false;
        }

        // ---- TOKENS

        /** Goes to the next TOKEN: its sort. */
        private int step() {
            start = end;
            while (start < length && text[start] == ' ') {
                start++;
            }
            end = start;
            if (start >= length) {
                sort = END;
            } else if (text[start] == ';') {
                end++;
                sort = MARK;
            } else {
                stepWord();
                if (end == start) {
                    stepWhole();
                }
            }
            return sort;
        }

        private void stepWord() {
            word = 0;
            while (end < length && text[end] >= 'a' && text[end] <= 'z') {
                word = word << 8 | text[end];
                end++;
            }
            sort = end - start <= LONGEST_WORD ? WORD : BAD;
        }

        private void stepWhole() {
            value = 0;
            while (end < length && text[end] >= '0' && text[end] <= '9') {
                value = value * 10 + text[end] - '0';
                end++;
            }
            sort = end > start && end - start <= LONGEST_WHOLE ? WHOLE : BAD;
        }

        private boolean stands(long which) {
            return sort == WORD && word == which;
        }

        private boolean takeWord(long which) {
            step();
            return stands(which) || spoil(1);
        }

        private boolean takeWhole(int most) {
            if (step() != WHOLE) {
                return spoil(1);
            }
            return value <= most || spoil(4);
        }

        // ---- NAMES

        private boolean isName() {
            boolean kept = word == CITY_WORD || word == PERSON_WORD || word == NEAR_WORD
                || word == ASKED_WORD || word == HEARD_WORD || word == WENT_WORD || word == CAT_WORD;
            return sort == WORD && !kept;
        }

        /** Who bears the NAME that stands here; NONE if it isn't told. */
        private int bearer() {
            for (int p = 0; p < city.people && p < PEOPLE; p++) {
                if (names[p] == word) {
                    return p;
                }
            }
            return NONE;
        }

        /** The PERSON whose NAME stands here; NONE behind a FAULT. */
        private int personHere() {
            int p = isName() ? bearer() : NONE;
            if (p == NONE) {
                spoil(isName() ? 2 : 1);
            }
            return p;
        }

        private int takePerson() {
            step();
            return personHere();
        }

        // ---- LINES

        private boolean readLine() {
            step();
            if (stands(CITY_WORD)) {
                return begun ? spoil(3) : readHead();
            }
            boolean isPerson = stands(PERSON_WORD);
            boolean isNear = stands(NEAR_WORD);
            boolean isAsked = stands(ASKED_WORD);
            boolean isHeard = stands(HEARD_WORD);
            if (!isPerson && !isNear && !isAsked && !isHeard && !stands(WENT_WORD)) {
                return spoil(1);
            }
            if (!begun) {
                return spoil(6);
            }
            if (isPerson) {
                return city.people < PEOPLE ? readNewPerson() : spoil(5);
            }
            if (isNear) {
                return city.nears < NEAR ? readNear() : spoil(5);
            }
            if (isAsked) {
                return city.askeds < ASKED ? readAsked() : spoil(5);
            }
            if (isHeard) {
                return city.heards < HEARD ? readHeard() : spoil(5);
            }
            return readWent();
        }

        private boolean readHead() {
            begun = true;
            if (!takeWord(HOUR_WORD) || !takeWhole(99)) {
                return false;
            }
            city.hour = value;
            if (!takeWord(GIVES_WORD) || !takeWhole(9)) {
                return false;
            }
            city.gives = value;
            return true;
        }

        private boolean readNewPerson() {
            int p = city.people;
            step();
            if (!isName()) {
                return spoil(1);
            }
            if (bearer() != NONE) {
                return spoil(3);
            }
            names[p] = word;
            city.kind[p] = takeKind();
            if (city.kind[p] == NONE) {
                return spoil(1);
            }
            if (!takeWord(HAS_WORD) || !takeWhole(99)) {
                return false;
            }
            city.has[p] = value;
            if (!takeWord(DIES_WORD) || !takeWhole(100)) {
                return false;
            }
            city.chance[p] = value;
            city.people++;
            return true;
        }

        private int takeKind() {
            step();
            return stands(PLAIN_WORD) ? PLAIN : stands(SHUT_WORD) ? SHUT
                : stands(WALLED_WORD) ? WALLED : stands(DOCTOR_WORD) ? DOCTOR : NONE;
        }

        private boolean readNear() {
            int p = takePerson();
            if (p == NONE) {
                return false;
            }
            int other = takePerson();
            if (other == NONE) {
                return false;
            }
            if (other == p || in(city.near[p], other)) {
                return spoil(3);
            }
            city.near[p] |= 1 << other;
            city.near[other] |= 1 << p;
            city.nears++;
            return true;
        }

        /** Who asked whom, as a place of the REGISTER; NONE behind a FAULT. */
        private int takePair() {
            int p = takePerson();
            if (p == NONE) {
                return NONE;
            }
            if (city.kind[p] == DOCTOR) {
                spoil(7);
                return NONE;
            }
            int of = takePerson();
            if (of == NONE) {
                return NONE;
            }
            if (of == p || city.register[pair(p, of)] != NEVER) {
                spoil(3);
                return NONE;
            }
            if (!city.allows(p, of)) {
                spoil(7);
                return NONE;
            }
            return pair(p, of);
        }

        private boolean readAsked() {
            int asked = takePair();
            if (asked == NONE || !takeWord(AT_WORD) || !takeWhole(city.hour)) {
                return false;
            }
            city.register[asked] = value;
            city.askeds++;
            return true;
        }

        private boolean readHeard() {
            int k = city.heards;
            int heard = takePair();
            if (heard == NONE || !takeWord(AT_WORD) || !takeWhole(city.hour)) {
                return false;
            }
            city.register[heard] = value;
            city.heardPair[k] = heard;
            city.heardAt[k] = value;
            if (!takeWord(GIVE_WORD) || !takeWhole(MOST_GIVE)) {
                return false;
            }
            city.heardGive[k] = value;
            city.heards++;
            return true;
        }

        private boolean readWent() {
            int p = takePerson();
            if (p == NONE) {
                return false;
            }
            if (city.wentTo[p] != UNTOLD) {
                return spoil(3);
            }
            step();
            int to = stands(CAT_WORD) ? CAT : personHere();
            if (to == NONE) {
                return false;
            }
            if (to == p) {
                return spoil(3);
            }
            city.wentTo[p] = to;
            city.wents++;
            return true;
        }
    }
}
