import java.util.Arrays;

/**
 * Stepping stones are the last to have crossed: a river told as a text, and the people who stand in it.
 * ../shared/DOC.md says what each call answers; the words in capitals here are that document's.
 */
public final class FordLine {
    public static final int NONE = -1;

    private static final int NO_SUCH = -2;
    private static final int BAD_NUMBER = -3;
    private static final int TOO_MANY = -4;
    private static final int NOT_NOW = -5;
    private static final int TRAY_MISSING = -6;
    private static final int NO_SUCH_NUMBER = -7;
    private static final int WHY_NOT = -10;
    private static final int FAULTY = -30;

    private static final int WHY_NO_SUCH = 1;
    private static final int WHY_TAKEN = 2;
    private static final int WHY_NO_STEPS = 3;

    private static final int MOST_PEOPLE = 4;
    private static final int MOST_SPOTS = 6;
    private static final int MOST_PLACES = 8;
    private static final int MOST_REACH = 4;
    private static final int MOST_STRIDE = 9;
    private static final int FIRST_STRENGTH = 5;
    private static final int TOP = 9;
    private static final int SETS = 16;
    private static final int MOST_UNDONE = 10;
    private static final int MOST_TIMES = 40;
    private static final int MOST_ROW = 10;
    private static final int MOST_FELT = 12;
    private static final int MOST_SPRINGS = 6;
    private static final int TRAYS = 4;
    private static final int SORTS = 4;
    private static final int IMAGES = 2;
    private static final int FED_AT_ONCE = 20;

    private static final int FLOODS = 100;
    private static final int STRENGTHENINGS = 200;
    private static final int LAST_DEED = 399;
    private static final int STAY = 99;
    private static final int PAIR_OF = 10;

    /** A moment is one long: PLACES (3 bits each), then STRENGTHS, then DEPTHS (4 bits each). */
    private static final int STRENGTHS_AT = 12;
    private static final int DEPTHS_AT = 28;
    private static final int PLACING = 4095;
    private static final int ALL_STRENGTHS = 0xffff;

    private final Tape tape = new Tape();
    private final Reader reader = new Reader(tape);
    private River told = new River();
    private long now = 0L;
    private final long[] past = new long[MOST_UNDONE];
    private int undoable = 0;
    private final Ford ford = new Ford();
    private final Goings goings = new Goings(ford);
    private final Search search = new Search(goings);
    private final Rows tally = new Rows(goings);
    private final Forcing forcing = new Forcing(goings);
    private final Few few = new Few();
    private final Tray[] trays = new Tray[TRAYS];
    private final River[] imageRivers = new River[IMAGES];
    private final long[] imageMoments = new long[IMAGES];
    private int drawn = 0;

    public FordLine() {
        for (int i = 0; i < TRAYS; i++) {
            trays[i] = new Tray();
        }
    }

    // ---- the river

    public int feed(int a, int b, int c, int d, int e) {
        if (tape.fed + FED_AT_ONCE > Tape.ROOM) {
            return NOT_NOW;
        }
        tape.take(a);
        tape.take(b);
        tape.take(c);
        tape.take(d);
        tape.take(e);
        return tape.fed;
    }

    public int river(int n) {
        if (n < 0 || n > tape.fed) {
            return BAD_NUMBER;
        }
        tape.cut(n);
        River draft = reader.read();
        if (draft == null) {
            return FAULTY - reader.fault;
        }
        told = draft;
        now = draft.start;
        undoable = 0;
        return told.lines;
    }

    public int fault(int what) {
        if (what == 0) {
            return reader.fault;
        }
        return what == 1 ? reader.faultPlace : NONE;
    }

    public int person(int p, int what) {
        if (!told.isPerson(p)) {
            return NO_SUCH;
        }
        switch (what) {
            case 0: return placeOf(now, p);
            case 1: return told.reaches[p];
            case 2: return strengthOf(now, p);
            case 3: return told.families[p];
            case 4: return fordAt(now).spread(placingOf(now), p, told.reaches[p], MOST_PLACES);
            default: return NO_SUCH;
        }
    }

    public int spot(int s, int what) {
        if (!told.isSpot(s)) {
            return NO_SUCH;
        }
        if (what == 0) {
            return depthOf(now, s);
        }
        return what == 1 ? told.whoIsAt(placingOf(now), s) : NO_SUCH;
    }

    public int trusts(int p, int q, int gap) {
        if (!told.isPerson(p) || !told.isPerson(q) || p == q) {
            return NO_SUCH;
        }
        if (gap < 1 || gap > MOST_REACH) {
            return BAD_NUMBER;
        }
        return fordAt(now).trusting(p, q, gap) ? 1 : 0;
    }

    public int holds(int p, int water) {
        if (!told.isPerson(p)) {
            return NO_SUCH;
        }
        if (!isDigit(water)) {
            return BAD_NUMBER;
        }
        if (!told.isSpot(placeOf(now, p))) {
            return NOT_NOW;
        }
        return holdsWith(p, strengthOf(now, p), water) ? 1 : 0;
    }

    public int steps(int p, int to) {
        if (!told.isPerson(p) || !told.isPlace(to)) {
            return NO_SUCH;
        }
        fordAt(now);
        for (int many = 1; many <= MOST_PLACES; many++) {
            if (hasBit(ford.spread(placingOf(now), p, told.reaches[p], many), to)) {
                return many;
            }
        }
        return NONE;
    }

    // ---- deeds

    public int go(int p, int to) {
        int why = whyNotGo(now, p, to);
        if (why != 0) {
            return WHY_NOT - why;
        }
        int from = placeOf(now, p);
        become(withPlace(now, p, to));
        return from;
    }

    public int flood(int water) {
        if (!isDigit(water)) {
            return WHY_NOT - WHY_NO_SUCH;
        }
        int gone = sweptNow(water);
        become(done(now, FLOODS + water));
        return gone;
    }

    public int strength(int p, int n) {
        if (!told.isPerson(p) || !isDigit(n)) {
            return WHY_NOT - WHY_NO_SUCH;
        }
        int was = strengthOf(now, p);
        become(withStrength(now, p, n));
        return was;
    }

    public int depth(int s, int n) {
        if (!told.isSpot(s) || !isDigit(n)) {
            return WHY_NOT - WHY_NO_SUCH;
        }
        int was = depthOf(now, s);
        become(withDepth(now, s, n));
        return was;
    }

    public int undo(int n) {
        if (n < 1 || n > undoable) {
            return BAD_NUMBER;
        }
        undoable -= n;
        now = past[undoable];
        return undoable;
    }

    public int judge(int tray, int what) {
        if (!isTray(tray) || what < 0 || what > 3) {
            return NO_SUCH;
        }
        Tray deeds = trays[tray];
        if (deeds.isMissing()) {
            return TRAY_MISSING;
        }
        int can = doable(deeds);
        long then = behind(deeds, can);
        switch (what) {
            case 0: return can < deeds.size ? can : NONE;
            case 1: return can < deeds.size ? whyNot(then, deeds.at(can)) : 0;
            case 2: return told.standing(placingOf(then));
            default: return told.over(placingOf(then));
        }
    }

    public int perform(int tray) {
        if (!isTray(tray)) {
            return NO_SUCH;
        }
        Tray deeds = trays[tray];
        if (deeds.isMissing()) {
            return TRAY_MISSING;
        }
        int can = doable(deeds);
        if (can > 0) {
            become(behind(deeds, can));
        }
        return can;
    }

    public int season(int seed, int times) {
        if (times < 1 || times > MOST_TIMES) {
            return BAD_NUMBER;
        }
        drawn = seed;
        long then = now;
        int could = 0;
        for (int i = 0; i < times; i++) {
            int deed = drawDeed();
            if (whyNot(then, deed) == 0) {
                then = done(then, deed);
                could++;
            }
        }
        if (could > 0) {
            become(then);
        }
        return could;
    }

    // ---- coming over

    public int soonest(int set) {
        if (!told.isSet(set)) {
            return BAD_NUMBER;
        }
        return comingOver(set) == NONE ? NONE : search.rowLength();
    }

    public int way(int set, int i) {
        if (!told.isSet(set) || i < 0) {
            return BAD_NUMBER;
        }
        if (comingOver(set) == NONE || i >= search.rowLength()) {
            return NONE;
        }
        return search.goingAt(i);
    }

    public long rows(int set, int n) {
        if (!told.isSet(set) || n < 0 || n > MOST_ROW) {
            return BAD_NUMBER;
        }
        goings.attune(told, now);
        tally.begin(placingOf(now));
        for (int i = 0; i < n; i++) {
            tally.goOn();
        }
        return tally.rowsTo(set);
    }

    public int needed(int set) {
        if (!told.isSet(set)) {
            return BAD_NUMBER;
        }
        if (comingOver(set) == NONE) {
            return 0;
        }
        int bits = 0;
        for (int p = 0; p < told.people; p++) {
            int others = told.everybody() & ~(1 << p);
            if (search.explore(placingOf(now), others, set) == NONE) {
                bits |= 1 << p;
            }
        }
        return bits;
    }

    public int movers(int set) {
        if (!told.isSet(set)) {
            return BAD_NUMBER;
        }
        if (comingOver(set) == NONE) {
            return NONE;
        }
        for (int size = 0; size <= told.people; size++) {
            for (int some = 0; some <= told.everybody(); some++) {
                if (Integer.bitCount(some) == size
                        && search.explore(placingOf(now), some, set) != NONE) {
                    return some;
                }
            }
        }
        return NONE;
    }

    public int most() {
        exploreAll();
        int most = 0;
        for (int i = 0; i < search.found; i++) {
            most = Math.max(most, Integer.bitCount(told.over(search.placingAt(i))));
        }
        return most;
    }

    public int reach(int p) {
        if (!told.isPerson(p)) {
            return NO_SUCH;
        }
        exploreAll();
        int bits = 0;
        for (int i = 0; i < search.found; i++) {
            bits |= 1 << placeOf(search.placingAt(i), p);
        }
        return bits;
    }

    public int stands() {
        exploreAll();
        return search.found;
    }

    public int stride(int p) {
        if (!told.isPerson(p)) {
            return NO_SUCH;
        }
        if (placeOf(now, p) == told.farBank()) {
            return NONE;
        }
        fordAt(now);
        for (int reach = 1; reach <= MOST_STRIDE; reach++) {
            if (hasBit(ford.spread(placingOf(now), p, reach, MOST_PLACES), told.farBank())) {
                return reach;
            }
        }
        return NONE;
    }

    // ---- water

    public int swept(int water) {
        return isDigit(water) ? sweptNow(water) : BAD_NUMBER;
    }

    public int least(int p) {
        if (!told.isPerson(p)) {
            return NO_SUCH;
        }
        if (!told.isSpot(placeOf(now, p))) {
            return NOT_NOW;
        }
        for (int water = 0; water <= TOP; water++) {
            if (hasBit(sweptNow(water), p)) {
                return water;
            }
        }
        return NONE;
    }

    public int calm() {
        for (int water = TOP; water >= 0; water--) {
            if (sweptNow(water) == 0) {
                return water;
            }
        }
        return NONE;
    }

    public int looks(int water) {
        if (!isDigit(water)) {
            return BAD_NUMBER;
        }
        fordAt(now).flooded(placingOf(now), water);
        return ford.looksTaken;
    }

    // ---- orders

    public int orders() {
        return countOrders();
    }

    public int order(int i) {
        if (i < 0) {
            return BAD_NUMBER;
        }
        if (countOrders() == 0) {
            return NONE;
        }
        int gone = 0;
        for (int turn = 0; turn < told.people; turn++) {
            int next = firstBit(nextInOrder(gone));
            if (turn == i || next == NONE) {
                return next;
            }
            gone |= 1 << next;
        }
        return NONE;
    }

    public int firsts() {
        return countOrders() == 0 ? 0 : nextInOrder(0);
    }

    // ---- felt

    public int strengths(int tray, int p) {
        int refusal = whyNotFelt(tray, p);
        return refusal != 0 ? refusal : feltStrengths(trays[tray], p);
    }

    public int attempt(int tray, int p) {
        int refusal = whyNotFelt(tray, p);
        if (refusal != 0) {
            return refusal;
        }
        int likely = feltStrengths(trays[tray], p);
        if (likely == 0) {
            return NONE;
        }
        int best = 0;
        int bestWater = NONE;
        for (int water = 0; water <= TOP; water++) {
            int holding = Integer.bitCount(likely & strengthsHolding(p, water));
            int lesser = Math.min(holding, Integer.bitCount(likely) - holding);
            if (bestWater == NONE || lesser > best) {
                best = lesser;
                bestWater = water;
            }
        }
        return bestWater;
    }

    // ---- together

    public int pairs(int what) {
        if (what != 0 && (what < PAIR_OF || !told.isPerson(what - PAIR_OF))) {
            return NO_SUCH;
        }
        for (int p = 0; p < MOST_PEOPLE; p++) {
            few.friends[p] = friendsOf(p);
        }
        few.pairUp(told.everybody());
        return what == 0 ? few.mostPairs(told.everybody()) : few.mates[what - PAIR_OF];
    }

    // ---- by turns

    public int forces(int p) {
        if (!told.isPerson(p)) {
            return NO_SUCH;
        }
        goings.attune(told, now);
        forcing.explore(placingOf(now));
        return forcing.turnsFor(placingOf(now), p);
    }

    public int best(int p) {
        if (!told.isPerson(p)) {
            return NO_SUCH;
        }
        goings.attune(told, now);
        forcing.explore(placingOf(now));
        int turns = forcing.turnsFor(placingOf(now), p);
        return turns < 1 ? NONE : forcing.firstGoing(placingOf(now), turns);
    }

    // ---- springs

    public int chance(int p, int n, int what) {
        if (!told.isPerson(p) || what < 0 || what > 1) {
            return NO_SUCH;
        }
        if (n < 0 || n > MOST_SPRINGS) {
            return BAD_NUMBER;
        }
        if (!told.isSpot(placeOf(now, p))) {
            return NOT_NOW;
        }
        return springsSum(n, 1 << p, what);
    }

    public int mean(int n, int what) {
        if (what < 0 || what > 1) {
            return NO_SUCH;
        }
        if (n < 0 || n > MOST_SPRINGS) {
            return BAD_NUMBER;
        }
        return springsSum(n, told.everybody(), what);
    }

    // ---- trays, images

    public int numbers(int tray, int sort, int n) {
        if (!isTray(tray) || sort < 0 || sort >= SORTS) {
            return NO_SUCH;
        }
        if (n < 0 || n > Tray.ROOM) {
            return BAD_NUMBER;
        }
        trays[tray].begin(sort, n);
        return 0;
    }

    public long write(int tray, int i, long v) {
        if (!isTray(tray)) {
            return NO_SUCH;
        }
        if (trays[tray].isMissing()) {
            return TRAY_MISSING;
        }
        if (i < 0 || i >= trays[tray].size) {
            return NO_SUCH_NUMBER;
        }
        trays[tray].put(i, v);
        return trays[tray].at(i);
    }

    public int lists(int tray, int set) {
        if (!isTray(tray)) {
            return NO_SUCH;
        }
        if (trays[tray].isMissing()) {
            return TRAY_MISSING;
        }
        if (!told.isSet(set)) {
            return BAD_NUMBER;
        }
        if (comingOver(set) == NONE) {
            return NOT_NOW;
        }
        int many = Math.min(search.rowLength(), trays[tray].size);
        for (int i = 0; i < many; i++) {
            trays[tray].put(i, search.goingAt(i));
        }
        return many;
    }

    public int image(int i) {
        if (i < 0 || i >= IMAGES) {
            return NO_SUCH;
        }
        imageRivers[i] = told;
        imageMoments[i] = now;
        return 0;
    }

    public int restore(int i) {
        if (i < 0 || i >= IMAGES) {
            return NO_SUCH;
        }
        if (imageRivers[i] == null) {
            return NOT_NOW;
        }
        told = imageRivers[i];
        now = imageMoments[i];
        undoable = 0;
        return 0;
    }

    public int count(int what) {
        switch (what) {
            case 0: return told.spots;
            case 1: return told.people;
            case 2: return told.standing(placingOf(now));
            case 3: return told.over(placingOf(now));
            case 4: return allStrengths();
            case 5: return told.tide;
            case 6: return undoable;
            case 7: return tape.fed;
            case 8: return told.lines;
            default: return NONE;
        }
    }

    // ---- a moment as a long

    private static int placingOf(long moment) {
        return (int) moment & PLACING;
    }

    private static int placeOf(long moment, int p) {
        return (int) (moment >>> (3 * p)) & 7;
    }

    private static int strengthOf(long moment, int p) {
        return (int) (moment >>> (STRENGTHS_AT + 4 * p)) & 15;
    }

    private static int depthOf(long moment, int s) {
        return (int) (moment >>> (DEPTHS_AT + 4 * (s - 1))) & 15;
    }

    private static long withPlace(long moment, int p, int place) {
        return withBits(moment, 3 * p, 7L, place);
    }

    private static long withStrength(long moment, int p, int n) {
        return withBits(moment, STRENGTHS_AT + 4 * p, 15L, n);
    }

    private static long withDepth(long moment, int s, int n) {
        return withBits(moment, DEPTHS_AT + 4 * (s - 1), 15L, n);
    }

    private static long withBits(long moment, int shift, long mask, int n) {
        return (moment & ~(mask << shift)) | ((n & mask) << shift);
    }

    private static int moved(int placing, int p, int to) {
        return (placing & ~(7 << (3 * p))) | (to << (3 * p));
    }

    private static int sentBack(int placing, int gone) {
        int left = placing;
        for (int p = 0; p < MOST_PEOPLE; p++) {
            if (hasBit(gone, p)) {
                left = moved(left, p, 0);
            }
        }
        return left;
    }

    private static boolean hasBit(int bits, int i) {
        return (bits >> i & 1) != 0;
    }

    private static int firstBit(int bits) {
        return bits == 0 ? NONE : Integer.numberOfTrailingZeros(bits);
    }

    private static boolean isDigit(int n) {
        return n >= 0 && n <= TOP;
    }

    private static boolean isTray(int tray) {
        return tray >= 0 && tray < TRAYS;
    }

    // ---- deeds, done to a moment

    private Ford fordAt(long moment) {
        ford.attune(told, moment);
        return ford;
    }

    private void become(long then) {
        if (undoable == MOST_UNDONE) {
            System.arraycopy(past, 1, past, 0, MOST_UNDONE - 1);
            undoable--;
        }
        past[undoable] = now;
        undoable++;
        now = then;
    }

    private int whyNotGo(long moment, int p, int to) {
        if (!told.isPerson(p) || !told.isPlace(to)) {
            return WHY_NO_SUCH;
        }
        int placing = placingOf(moment);
        if (placeOf(moment, p) == to || (told.isSpot(to) && told.whoIsAt(placing, to) != NONE)) {
            return WHY_TAKEN;
        }
        int ends = fordAt(moment).spread(placing, p, told.reaches[p], MOST_PLACES);
        return hasBit(ends, to) ? 0 : WHY_NO_STEPS;
    }

    private int whyNot(long moment, long deed) {
        if (deed < 0 || deed > LAST_DEED) {
            return WHY_NO_SUCH;
        }
        int whom = (int) deed % 100 / 10;
        int n = (int) deed % 10;
        boolean can;
        switch ((int) deed / 100) {
            case 0: return whyNotGo(moment, whom, n);
            case 1: can = whom == 0; break;
            case 2: can = told.isPerson(whom); break;
            default: can = told.isSpot(whom); break;
        }
        return can ? 0 : WHY_NO_SUCH;
    }

    /** What a DEED that can be done makes of a moment. */
    private long done(long moment, long deed) {
        int whom = (int) (deed % 100) / 10;
        int n = (int) (deed % 10);
        switch ((int) (deed / 100)) {
            case 0: return withPlace(moment, whom, n);
            case 1: return moment & ~(long) PLACING | fordAt(moment).flooded(placingOf(moment), n);
            case 2: return withStrength(moment, whom, n);
            default: return withDepth(moment, whom, n);
        }
    }

    private int draw() {
        drawn = 1103515245 * drawn + 12345;
        return drawn >>> 16;
    }

    private int drawDeed() {
        int kind = draw() % 6;
        if (kind == 4) {
            return FLOODS + draw() % 10;
        }
        int p = draw() % 4;
        return kind == 5 ? STRENGTHENINGS + 10 * p + draw() % 10 : 10 * p + draw() % 8;
    }

    private int doable(Tray deeds) {
        long then = now;
        for (int i = 0; i < deeds.size; i++) {
            if (whyNot(then, deeds.at(i)) != 0) {
                return i;
            }
            then = done(then, deeds.at(i));
        }
        return deeds.size;
    }

    private long behind(Tray deeds, int many) {
        long then = now;
        for (int i = 0; i < many; i++) {
            then = done(then, deeds.at(i));
        }
        return then;
    }

    private int sweptNow(int water) {
        int placing = placingOf(now);
        int left = fordAt(now).flooded(placing, water);
        return told.standing(placing) & ~told.standing(left);
    }

    private int allStrengths() {
        int all = 0;
        for (int p = 0; p < told.people; p++) {
            all += strengthOf(now, p);
        }
        return all;
    }

    // ---- what the calls share

    private int comingOver(int set) {
        goings.attune(told, now);
        return search.explore(placingOf(now), told.everybody(), set);
    }

    private void exploreAll() {
        goings.attune(told, now);
        search.explore(placingOf(now), told.everybody(), NONE);
    }

    /** Whether PERSON p would HOLD now if it had another STRENGTH. */
    private boolean holdsWith(int p, int strength, int water) {
        int placing = placingOf(now);
        int place = placeOf(now, p);
        int beside = Ford.besideOf(told.spotsTaken(placing), place);
        return fordAt(now).wouldHold(p, strength, place, beside, water);
    }

    private int strengthsHolding(int p, int water) {
        int bits = 0;
        for (int strength = 0; strength <= TOP; strength++) {
            if (holdsWith(p, strength, water)) {
                bits |= 1 << strength;
            }
        }
        return bits;
    }

    private int whyNotFelt(int tray, int p) {
        if (!isTray(tray) || !told.isPerson(p)) {
            return NO_SUCH;
        }
        Tray felt = trays[tray];
        if (felt.isMissing()) {
            return TRAY_MISSING;
        }
        if (felt.size < 1 || felt.size > MOST_FELT) {
            return TOO_MANY;
        }
        for (int i = 0; i < felt.size; i++) {
            if (felt.at(i) < 0 || felt.at(i) > 2 * TOP + 1) {
                return BAD_NUMBER;
            }
        }
        return told.isSpot(placeOf(now, p)) ? 0 : NOT_NOW;
    }

    private int feltStrengths(Tray felt, int p) {
        int bits = (1 << (TOP + 1)) - 1;
        for (int i = 0; i < felt.size; i++) {
            int number = (int) felt.at(i);
            int holding = strengthsHolding(p, number / 2);
            bits &= number % 2 == 1 ? holding : ~holding;
        }
        return bits;
    }

    /** Who isn't on the near bank is where it is in an ORDER, too; so sets of those gone tell all PLACES. */
    private int countOrders() {
        int placing = placingOf(now);
        int away = told.standing(placing) | told.over(placing);
        fordAt(now);
        for (int gone = SETS - 1; gone >= 0; gone--) {
            few.orders[gone] = gone == away ? 1 : 0;
            few.nexts[gone] = (gone & ~away) == 0 ? ableToGo(placing, gone, away & ~gone) : 0;
            for (int p = 0; p < MOST_PEOPLE; p++) {
                if (hasBit(few.nexts[gone], p)) {
                    few.orders[gone] += few.orders[gone | 1 << p];
                }
            }
        }
        return few.orders[0];
    }

    /** Which of those who wait can GO to where they are in placing, once those gone are there. */
    private int ableToGo(int placing, int gone, int waiting) {
        int before = sentBack(placing, ~gone);
        int bits = 0;
        for (int p = 0; p < told.people; p++) {
            if (hasBit(waiting, p)
                    && hasBit(ford.spread(before, p, told.reaches[p], MOST_PLACES), placeOf(placing, p))) {
                bits |= 1 << p;
            }
        }
        return bits;
    }

    /** Who can be next in an ORDER that goes on to its end. */
    private int nextInOrder(int gone) {
        int bits = 0;
        for (int p = 0; p < MOST_PEOPLE; p++) {
            if (gone < SETS && hasBit(few.nexts[gone], p) && few.orders[gone | 1 << p] > 0) {
                bits |= 1 << p;
            }
        }
        return bits;
    }

    private int friendsOf(int p) {
        int bits = 0;
        fordAt(now);
        for (int q = 0; q < told.people; q++) {
            if (p < told.people && p != q && ford.trusting(p, q, 1) && ford.trusting(q, p, 1)) {
                bits |= 1 << q;
            }
        }
        return bits;
    }

    /** Of how many out of a set STAND behind n SPRINGS on the mean, the number above (0) or below (1). */
    private int springsSum(int n, int set, int what) {
        int placing = placingOf(now);
        int standing = told.standing(placing);
        Arrays.fill(few.ways, 0);
        few.ways[standing] = 1;
        fordAt(now);
        int all = 1;
        for (int i = 0; i < n; i++) {
            springOn(placing);
            all *= 10;
        }
        int sum = 0;
        for (int left = 0; left < SETS; left++) {
            sum += few.ways[left] * Integer.bitCount(left & set);
        }
        int common = commonDivisor(sum, all);
        return (what == 0 ? sum : all) / Math.max(common, 1);
    }

    private void springOn(int placing) {
        Arrays.fill(few.nextWays, 0);
        for (int left = 0; left < SETS; left++) {
            if (few.ways[left] == 0) {
                continue;
            }
            int then = sentBack(placing, ~left);
            for (int water = 0; water <= TOP; water++) {
                few.nextWays[told.standing(ford.flooded(then, water))] += few.ways[left];
            }
        }
        System.arraycopy(few.nextWays, 0, few.ways, 0, SETS);
    }

    private static int commonDivisor(int a, int b) {
        int big = a;
        int small = b;
        for (int i = 0; i < 64 && small != 0; i++) {
            int rest = big % small;
            big = small;
            small = rest;
        }
        return big;
    }

    /** What a text told; never changed once it is THE RIVER, so that images can share it. */
    private static final class River {
        private int spots = 1;
        private int people = 0;
        private int tide = 5;
        private int lines = 0;
        private long start = 0L;
        private final int[] reaches = new int[MOST_PEOPLE];
        private final int[] families = new int[MOST_PEOPLE];
        private int[] holdsLaw = null;
        private int[] trustsLaw = null;

        private boolean isPerson(int p) {
            return p >= 0 && p < people;
        }

        private boolean isSpot(int s) {
            return s >= 1 && s <= spots;
        }

        private boolean isPlace(int place) {
            return place >= 0 && place <= farBank();
        }

        private boolean isSet(int set) {
            return set >= 0 && set <= everybody();
        }

        private int farBank() {
            return spots + 1;
        }

        private int everybody() {
            return (1 << people) - 1;
        }

        private int whoIsAt(int placing, int place) {
            for (int p = 0; p < people; p++) {
                if (placeOf(placing, p) == place) {
                    return p;
                }
            }
            return NONE;
        }

        private int standing(int placing) {
            int bits = 0;
            for (int p = 0; p < people; p++) {
                if (isSpot(placeOf(placing, p))) {
                    bits |= 1 << p;
                }
            }
            return bits;
        }

        private int over(int placing) {
            int bits = 0;
            for (int p = 0; p < people; p++) {
                if (placeOf(placing, p) == farBank()) {
                    bits |= 1 << p;
                }
            }
            return bits;
        }

        private int spotsTaken(int placing) {
            int bits = 0;
            for (int p = 0; p < people; p++) {
                bits |= 1 << placeOf(placing, p);
            }
            return bits & ~1 & ~(1 << farBank());
        }
    }

    /** THE TAPE, and its text as TOKENS. */
    private static final class Tape {
        private static final int ROOM = 900;

        /** Signs are their own tokens, by their bytes; these and the words stay apart from them. */
        private static final int END = 0;
        private static final int BAD = 1;
        private static final int NUMBER = 2;
        private static final int OTHER_WORD = 3;
        private static final String SIGNS = ";:+-*()[]=<>";

        /** Each ends with a blank and is the token WHO and so many; the first ones are what laws can ask. */
        private static final String WORDS = "who strength spot depth beside water family theirs stone gap river tide person reach at holds trusts or and not ";
        private static final int WHO = 128;
        private static final int STRENGTH = 129;
        private static final int SPOT = 130;
        private static final int DEPTH = 131;
        private static final int BESIDE = 132;
        private static final int WATER = 133;
        private static final int FAMILY = 134;
        private static final int THEIRS = 135;
        private static final int STONE = 136;
        private static final int GAP = 137;
        private static final int RIVER = 138;
        private static final int TIDE = 139;
        private static final int PERSON = 140;
        private static final int REACH = 141;
        private static final int AT = 142;
        private static final int HOLDS = 143;
        private static final int TRUSTS = 144;
        private static final int OR = 145;
        private static final int AND = 146;
        private static final int NOT = 147;

        private final byte[] bytes = new byte[ROOM];
        private int fed = 0;
        private int end = 0;
        private final int[] tokens = new int[ROOM + 1];
        private final int[] places = new int[ROOM + 1];
        private int many = 0;

        private void take(int four) {
            for (int shift = 24; shift >= 0; shift -= 8) {
                if (fed < ROOM) {
                    bytes[fed] = (byte) (four >>> shift);
                    fed++;
                }
            }
        }

        /** Cuts the first n bytes into tokens, the last one END; THE TAPE is empty then. */
        private void cut(int n) {
            end = Math.min(n, fed);
            fed = 0;
            many = 0;
            int next = 0;
            while (next < end) {
                int from = next;
                next++;
                int first = bytes[from] & 255;
                if (isLetter(from)) {
                    while (next < end && isLetter(next)) {
                        next++;
                    }
                    add(wordBetween(from, next), from);
                } else if (isNumeral(from)) {
                    while (next < end && isNumeral(next)) {
                        next++;
                    }
                    add(next - from > 3 ? BAD : NUMBER, from);
                } else if (first != ' ' && first != '\n') {
                    add(SIGNS.indexOf((char) first) >= 0 ? first : BAD, from);
                }
            }
            add(END, end);
        }

        private void add(int token, int place) {
            if (many < tokens.length) {
                tokens[many] = token;
                places[many] = place;
                many++;
            }
        }

        private boolean isNumeral(int i) {
            return bytes[i] >= '0' && bytes[i] <= '9';
        }

        private boolean isLetter(int i) {
            return bytes[i] >= 'a' && bytes[i] <= 'z';
        }

        private int wordBetween(int from, int to) {
            int word = WHO;
            int begin = 0;
            for (int i = 0; i < WORDS.length(); i++) {
                if (WORDS.charAt(i) == ' ') {
                    if (i - begin == to - from && isWord(begin, i, from)) {
                        return word;
                    }
                    word++;
                    begin = i + 1;
                }
            }
            return OTHER_WORD;
        }

        private boolean isWord(int begin, int stop, int from) {
            for (int i = begin; i < stop; i++) {
                if (WORDS.charAt(i) != bytes[from + i - begin]) {
                    return false;
                }
            }
            return true;
        }

        /** The number that a token NUMBER is. */
        private int numberAt(int i) {
            int number = 0;
            int from = places[i];
            for (int at = from; at < end && at < from + 3 && isNumeral(at); at++) {
                number = 10 * number + bytes[at] - '0';
            }
            return number;
        }
    }

    /** How THE RIVER is read from the tokens. */
    private static final class Reader {
        private static final int MOST_NESTED = 6;

        private static final int NO_TOKEN = 1;
        private static final int CANT_STAND = 2;
        private static final int OUT_OF_BOUNDS = 3;
        private static final int TOO_MUCH = 4;

        private final Tape tape;
        private int at = 0;
        private int token = Tape.END;
        private int fault = 0;
        private int faultPlace = NONE;
        private River draft = null;
        private int law = Tape.HOLDS;
        private final int[] code = new int[Tape.ROOM];
        private int codes = 0;

        private Reader(Tape tape) {
            this.tape = tape;
        }

        /** THE RIVER that the tokens tell, or null with a FAULT. */
        private River read() {
            fault = 0;
            faultPlace = NONE;
            draft = new River();
            at = 0;
            token = tape.tokens[0];
            expect(Tape.RIVER);
            draft.spots = readNumber(1, MOST_SPOTS);
            endLine();
            for (int i = 0; i < tape.many && fault == 0 && token != Tape.END; i++) {
                readLine();
                endLine();
            }
            return fault == 0 ? draft : null;
        }

        private void readLine() {
            switch (token) {
                case Tape.DEPTH:
                    advance();
                    readDepths();
                    break;
                case Tape.TIDE:
                    advance();
                    draft.tide = readNumber(0, TOP);
                    break;
                case Tape.PERSON:
                    readPerson();
                    break;
                case Tape.HOLDS:
                case Tape.TRUSTS:
                    readLaw();
                    break;
                default:
                    refuse(CANT_STAND);
                    break;
            }
        }

        private void endLine() {
            expect(';');
            draft.lines++;
        }

        private void readDepths() {
            for (int s = 1; s <= draft.spots; s++) {
                draft.start = withDepth(draft.start, s, readNumber(0, TOP));
            }
        }

        private void readPerson() {
            if (draft.people >= MOST_PEOPLE) {
                refuse(TOO_MUCH);
                return;
            }
            int p = draft.people;
            advance();
            expect(Tape.REACH);
            draft.reaches[p] = readNumber(1, MOST_REACH);
            draft.start = withStrength(draft.start, p, FIRST_STRENGTH);
            boolean more = true;
            for (int i = 0; i < tape.many && more; i++) {
                more = readFlag(p);
            }
            draft.people++;
        }

        private boolean readFlag(int p) {
            switch (token) {
                case Tape.STRENGTH:
                    advance();
                    draft.start = withStrength(draft.start, p, readNumber(0, TOP));
                    return true;
                case Tape.FAMILY:
                    advance();
                    draft.families[p] = readNumber(0, TOP);
                    return true;
                case Tape.AT:
                    advance();
                    refuseTakenSpot();
                    draft.start = withPlace(draft.start, p, readNumber(0, draft.farBank()));
                    return true;
                default:
                    return false;
            }
        }

        /** The draft counts only PEOPLE told ahead, not the one being told. */
        private void refuseTakenSpot() {
            if (token != Tape.NUMBER) {
                return;
            }
            int place = tape.numberAt(at);
            if (draft.isSpot(place) && draft.whoIsAt(placingOf(draft.start), place) != NONE) {
                refuse(OUT_OF_BOUNDS);
            }
        }

        private void readLaw() {
            law = token;
            codes = 0;
            advance();
            expect(':');
            readTruth(0);
            if (law == Tape.HOLDS) {
                draft.holdsLaw = Arrays.copyOf(code, codes);
            } else {
                draft.trustsLaw = Arrays.copyOf(code, codes);
            }
        }

        private void readTruth(int nested) {
            readBoth(nested);
            for (int i = 0; i < tape.many && token == Tape.OR; i++) {
                advance();
                readBoth(nested);
                emit(Law.OPERATOR + Tape.OR);
            }
        }

        private void readBoth(int nested) {
            readUnit(nested);
            for (int i = 0; i < tape.many && token == Tape.AND; i++) {
                advance();
                readUnit(nested);
                emit(Law.OPERATOR + Tape.AND);
            }
        }

        private void readUnit(int nested) {
            if (token == Tape.NOT) {
                if (canEnter(nested)) {
                    readUnit(nested + 1);
                    emit(Law.OPERATOR + Tape.NOT);
                }
                return;
            }
            if (token == '[') {
                if (canEnter(nested)) {
                    readTruth(nested + 1);
                    expect(']');
                }
                return;
            }
            readSum(nested);
            int sign = token;
            if (sign == '=' || sign == '<' || sign == '>') {
                advance();
                readSum(nested);
                emit(Law.OPERATOR + sign);
            } else {
                refuse(CANT_STAND);
            }
        }

        private void readSum(int nested) {
            readTerm(nested);
            for (int i = 0; i < tape.many && (token == '+' || token == '-'); i++) {
                int sign = token;
                advance();
                readTerm(nested);
                emit(Law.OPERATOR + sign);
            }
        }

        private void readTerm(int nested) {
            readAtom(nested);
            for (int i = 0; i < tape.many && token == '*'; i++) {
                advance();
                readAtom(nested);
                emit(Law.OPERATOR + '*');
            }
        }

        private void readAtom(int nested) {
            if (token == Tape.NUMBER) {
                emit(tape.numberAt(at));
                advance();
            } else if (isAskedByLaw()) {
                emit(Tape.WHO - 1 - token);
                advance();
            } else if (token != '(') {
                refuse(CANT_STAND);
            } else if (canEnter(nested)) {
                readSum(nested + 1);
                expect(')');
            }
        }

        private boolean isAskedByLaw() {
            if (token == Tape.WHO || token == Tape.STRENGTH) {
                return true;
            }
            if (law == Tape.HOLDS) {
                return token >= Tape.SPOT && token <= Tape.WATER;
            }
            return token >= Tape.FAMILY && token <= Tape.GAP;
        }

        /** Goes into what not, [ or ( opens, unless that is too deep. */
        private boolean canEnter(int nested) {
            if (nested >= MOST_NESTED) {
                refuse(TOO_MUCH);
                return false;
            }
            advance();
            return true;
        }

        private void emit(int one) {
            if (codes < code.length) {
                code[codes] = one;
                codes++;
            }
        }

        private int readNumber(int low, int high) {
            if (token != Tape.NUMBER) {
                refuse(CANT_STAND);
                return low;
            }
            int number = tape.numberAt(at);
            if (number < low || number > high) {
                refuse(OUT_OF_BOUNDS);
                return low;
            }
            advance();
            return number;
        }

        private void expect(int wanted) {
            if (token == wanted) {
                advance();
            } else {
                refuse(CANT_STAND);
            }
        }

        /** Only the first FAULT counts; from then on there is a token that nothing accepts. */
        private void refuse(int kind) {
            if (fault == 0) {
                fault = token == Tape.BAD ? NO_TOKEN : kind;
                faultPlace = tape.places[at];
            }
            token = Tape.BAD;
        }

        private void advance() {
            if (fault == 0 && at + 1 < tape.many) {
                at++;
                token = tape.tokens[at];
            }
        }
    }

    /** Asks a law, kept as codes in the order in which a stack needs them. */
    private static final class Law {
        /** Codes below 0 ask (-1 who, -2 strength, ..), those from here on are operators, others numbers. */
        private static final int OPERATOR = 1000;
        private static final int KEPT = 1000000;

        /** Five values can wait on each of seven levels. */
        private final int[] stack = new int[64];
        private final int[] asked = new int[10];

        private void tell(int word, int value) {
            if (word >= Tape.WHO && word - Tape.WHO < asked.length) {
                asked[word - Tape.WHO] = value;
            }
        }

        private boolean isTrue(int[] codes) {
            int top = 0;
            for (int i = 0; i < codes.length; i++) {
                int code = codes[i];
                if (code < OPERATOR) {
                    if (top < stack.length && -1 - code < asked.length) {
                        stack[top] = code >= 0 ? code : asked[-1 - code];
                        top++;
                    }
                    continue;
                }
                if (code == OPERATOR + Tape.NOT) {
                    if (top > 0) {
                        stack[top - 1] = 1 - stack[top - 1];
                    }
                    continue;
                }
                if (top < 2) {
                    return false;
                }
                top--;
                long a = stack[top - 1];
                long b = stack[top];
                switch (code - OPERATOR) {
                    case '+': a = a + b; break;
                    case '-': a = a - b; break;
                    case '*': a = a * b; break;
                    case '=': a = a == b ? 1 : 0; break;
                    case '<': a = a < b ? 1 : 0; break;
                    case '>': a = a > b ? 1 : 0; break;
                    case Tape.AND: a = a & b; break;
                    default: a = a | b; break;
                }
                stack[top - 1] = (int) Math.max(-KEPT, Math.min(KEPT, a));
            }
            return top > 0 && stack[0] != 0;
        }
    }

    /** STEPS and FLOODS at some STRENGTHS and DEPTHS; what the laws said of these is kept, as bits. */
    private static final class Ford {
        private final Law law = new Law();
        private River river = new River();
        private long moment = 0L;
        private final int[] trustKnown = new int[MOST_PEOPLE * MOST_PEOPLE];
        private final int[] trustTold = new int[MOST_PEOPLE * MOST_PEOPLE];
        private final int[] holdKnown = new int[MOST_PEOPLE * MOST_PLACES * 4];
        private final int[] holdTold = new int[MOST_PEOPLE * MOST_PLACES * 4];
        private int looksTaken = 0;

        private void attune(River newRiver, long newMoment) {
            boolean other = river != newRiver;
            long changed = moment ^ newMoment;
            river = newRiver;
            moment = newMoment;
            if (other || (changed >>> STRENGTHS_AT) != 0) {
                Arrays.fill(holdKnown, 0);
            }
            if (other || (changed >>> STRENGTHS_AT & ALL_STRENGTHS) != 0) {
                Arrays.fill(trustKnown, 0);
            }
        }

        private boolean trusting(int p, int q, int gap) {
            if (river.trustsLaw == null) {
                return true;
            }
            int at = p * MOST_PEOPLE + q;
            if (!hasBit(trustKnown[at], gap)) {
                law.tell(Tape.WHO, p);
                law.tell(Tape.STRENGTH, strengthOf(moment, p));
                law.tell(Tape.FAMILY, river.families[p]);
                law.tell(Tape.THEIRS, river.families[q]);
                law.tell(Tape.STONE, strengthOf(moment, q));
                law.tell(Tape.GAP, gap);
                int bit = 1 << gap;
                trustKnown[at] |= bit;
                trustTold[at] = law.isTrue(river.trustsLaw) ? trustTold[at] | bit : trustTold[at] & ~bit;
            }
            return hasBit(trustTold[at], gap);
        }

        private boolean holding(int p, int place, int beside, int water) {
            int at = (p * MOST_PLACES + place) * 4 + beside;
            if (!hasBit(holdKnown[at], water)) {
                int bit = 1 << water;
                holdKnown[at] |= bit;
                boolean holds = wouldHold(p, strengthOf(moment, p), place, beside, water);
                holdTold[at] = holds ? holdTold[at] | bit : holdTold[at] & ~bit;
            }
            return hasBit(holdTold[at], water);
        }

        private boolean wouldHold(int p, int strength, int place, int beside, int water) {
            if (river.holdsLaw == null) {
                return water <= strength;
            }
            law.tell(Tape.WHO, p);
            law.tell(Tape.STRENGTH, strength);
            law.tell(Tape.SPOT, place);
            law.tell(Tape.DEPTH, depthOf(moment, place));
            law.tell(Tape.BESIDE, beside);
            law.tell(Tape.WATER, water);
            return law.isTrue(river.holdsLaw);
        }

        private static int besideOf(int taken, int place) {
            return (taken >> (place - 1) & 1) + (taken >> (place + 1) & 1);
        }

        /** PLACES to which p can GO by a REACH in so many STEPS at most, as bits. */
        private int spread(int placing, int p, int reach, int most) {
            int far = river.farBank();
            int taken = river.spotsTaken(placing);
            int edge = 1 << placeOf(placing, p);
            int seen = edge;
            int ends = 0;
            for (int many = 0; many < most && edge != 0; many++) {
                int touched = 0;
                for (int gap = 1; gap <= reach; gap++) {
                    touched |= edge << gap | edge >> gap;
                }
                touched &= ((2 << far) - 1) & ~seen;
                ends |= touched & ~taken;
                edge = touched & (1 | 1 << far) | trustedOf(placing, p, touched & taken, edge, reach);
                seen |= edge;
            }
            return ends;
        }

        /** On which of some stones p trusts to step, by its reach, from one of the PLACES in edge, all as bits. */
        private int trustedOf(int placing, int p, int stones, int edge, int reach) {
            if (stones == 0 || river.trustsLaw == null) {
                return stones;
            }
            int trusted = 0;
            for (int q = 0; q < river.people; q++) {
                int place = placeOf(placing, q);
                if (!hasBit(stones, place)) {
                    continue;
                }
                for (int from = Math.max(0, place - reach); from <= place + reach; from++) {
                    if (hasBit(edge, from) && trusting(p, q, Math.abs(place - from))) {
                        trusted |= 1 << place;
                        break;
                    }
                }
            }
            return trusted;
        }

        /** Where all are behind a FLOOD; how many looks swept somebody is left in looksTaken. */
        private int flooded(int placing, int water) {
            int left = placing;
            looksTaken = 0;
            for (int look = 0; look < MOST_PEOPLE && look == looksTaken; look++) {
                int ahead = left;
                int taken = river.spotsTaken(ahead);
                for (int p = 0; p < river.people; p++) {
                    int place = placeOf(ahead, p);
                    if (hasBit(taken, place) && !holding(p, place, besideOf(taken, place), water)) {
                        left = moved(left, p, 0);
                        looksTaken = look + 1;
                    }
                }
            }
            return left;
        }
    }

    /** To which PLACES each can GO, kept by where all are: eight bits for each PERSON. */
    private static final class Goings {
        /** Nobody can GO to where it is, so not all bits can be set. */
        private static final int UNKNOWN = -1;

        private final Ford ford;
        private River river = new River();
        private int strengthBits = NONE;
        private int[] ends = new int[0];
        /** Grows whenever GOINGS may have become others. */
        private int version = 0;

        private Goings(Ford ford) {
            this.ford = ford;
        }

        private void attune(River newRiver, long moment) {
            ford.attune(newRiver, moment);
            int newStrengths = (int) (moment >>> STRENGTHS_AT & ALL_STRENGTHS);
            if (river == newRiver && strengthBits == newStrengths) {
                return;
            }
            river = newRiver;
            strengthBits = newStrengths;
            version++;
            if (ends.length < placings()) {
                ends = new int[placings()];
            }
            Arrays.fill(ends, UNKNOWN);
        }

        private int placings() {
            return 1 << (3 * river.people);
        }

        private int endsOf(int placing) {
            if (placing < 0 || placing >= ends.length) {
                return 0;
            }
            if (ends[placing] == UNKNOWN) {
                int all = 0;
                for (int p = 0; p < river.people; p++) {
                    all |= ford.spread(placing, p, river.reaches[p], MOST_PLACES) << (8 * p);
                }
                ends[placing] = all;
            }
            return ends[placing];
        }

        /** What endsOf answered before, without asking again. */
        private int endsKept(int placing) {
            return placing < 0 || placing >= ends.length || ends[placing] == UNKNOWN ? 0 : ends[placing];
        }

        /** Bits of endsOf, one for each GOING, are in the order of the DEEDS. */
        private static int deedOf(int bit) {
            return 10 * (bit >> 3) + (bit & 7);
        }

        private static int gone(int placing, int bit) {
            return moved(placing, bit >> 3, bit & 7);
        }

        private static int bitsOf(int movers) {
            int bits = 0;
            for (int p = 0; p < MOST_PEOPLE; p++) {
                bits |= hasBit(movers, p) ? 255 << (8 * p) : 0;
            }
            return bits;
        }
    }

    /** Where all can be by ROWS, found in the order of their fewest and first GOINGS. */
    private static final class Search {
        private static final int UNSEEN = 0;
        private static final int START = -1;

        private final Goings goings;
        /** By which GOING a placing was found first: the placing ahead and 1, above it the DEED. */
        private int[] came = new int[0];
        private int[] queue = new int[0];
        private int found = 0;
        private int goal = NONE;
        private int atGoal = NONE;
        private int lastStart = NONE;
        private int lastMovers = 0;
        private int lastVersion = NONE;

        private Search(Goings goings) {
            this.goings = goings;
        }

        /** The first placing found with all of a set on the far bank; for the set NONE all are found. */
        private int explore(int start, int movers, int set) {
            if (set == goal && start == lastStart && movers == lastMovers && goings.version == lastVersion) {
                return atGoal;
            }
            forget();
            goal = set;
            lastStart = start;
            lastMovers = movers;
            lastVersion = goings.version;
            visit(start, START);
            int moving = Goings.bitsOf(movers);
            for (int head = 0; head < found && head < queue.length && atGoal == NONE; head++) {
                int placing = queue[head];
                int ends = goings.endsOf(placing) & moving;
                for (int bit = 0; bit < 8 * MOST_PEOPLE && atGoal == NONE; bit++) {
                    if (hasBit(ends, bit)) {
                        visit(Goings.gone(placing, bit), placing + 1 + (Goings.deedOf(bit) << 13));
                    }
                }
            }
            return atGoal;
        }

        private void forget() {
            for (int i = 0; i < found; i++) {
                came[queue[i]] = UNSEEN;
            }
            found = 0;
            atGoal = NONE;
            if (came.length < goings.placings()) {
                came = new int[goings.placings()];
                queue = new int[goings.placings()];
            }
        }

        private void visit(int placing, int by) {
            if (placing < 0 || placing >= came.length || came[placing] != UNSEEN || found >= queue.length) {
                return;
            }
            came[placing] = by;
            queue[found] = placing;
            found++;
            if (goal != NONE && (goings.river.over(placing) & goal) == goal) {
                atGoal = placing;
            }
        }

        private int placingAt(int i) {
            return i >= 0 && i < found ? queue[i] : 0;
        }

        /** How many GOINGS lead to the goal that was found. */
        private int rowLength() {
            int many = 0;
            for (int placing = atGoal; many < found && hasBefore(placing); placing = before(placing)) {
                many++;
            }
            return many;
        }

        private int goingAt(int i) {
            int placing = atGoal;
            for (int left = rowLength() - 1; left > i; left--) {
                placing = before(placing);
            }
            return hasBefore(placing) ? came[placing] >>> 13 : NONE;
        }

        private boolean hasBefore(int placing) {
            return placing >= 0 && placing < came.length && came[placing] > UNSEEN;
        }

        private int before(int placing) {
            return hasBefore(placing) ? (came[placing] & 8191) - 1 : NONE;
        }
    }

    /** How many ROWS lead where, one GOING more each time. */
    private static final class Rows {
        private final Goings goings;
        private long[] ways = new long[0];
        private long[] nextWays = new long[0];
        private int[] list = new int[0];
        private int[] nextList = new int[0];
        private int many = 0;
        private int nextMany = 0;

        private Rows(Goings goings) {
            this.goings = goings;
        }

        private void begin(int start) {
            if (ways.length < goings.placings()) {
                ways = new long[goings.placings()];
                nextWays = new long[goings.placings()];
                list = new int[goings.placings()];
                nextList = new int[goings.placings()];
            }
            Arrays.fill(ways, 0L);
            many = 0;
            if (start >= 0 && start < ways.length) {
                ways[start] = 1L;
                list[0] = start;
                many = 1;
            }
        }

        private void goOn() {
            nextMany = 0;
            for (int i = 0; i < many; i++) {
                int placing = list[i];
                int ends = goings.endsOf(placing);
                for (int bit = 0; bit < 8 * MOST_PEOPLE; bit++) {
                    if (hasBit(ends, bit)) {
                        add(Goings.gone(placing, bit), ways[placing]);
                    }
                }
                ways[placing] = 0L;
            }
            long[] oldWays = ways;
            ways = nextWays;
            nextWays = oldWays;
            int[] oldList = list;
            list = nextList;
            nextList = oldList;
            many = nextMany;
        }

        /** All ways are above 0 and few enough for a long: 28 to the power of 10 at most. */
        private void add(int placing, long more) {
            if (placing < 0 || placing >= nextWays.length) {
                return;
            }
            if (nextWays[placing] == 0L && nextMany < nextList.length) {
                nextList[nextMany] = placing;
                nextMany++;
            }
            nextWays[placing] += more;
        }

        private long rowsTo(int set) {
            long all = 0L;
            for (int i = 0; i < many; i++) {
                if ((goings.river.over(list[i]) & set) == set) {
                    all += ways[list[i]];
                }
            }
            return all;
        }
    }

    /** What people can FORCE: for each placing that can come to be, within how many turns. */
    private static final class Forcing {
        private static final int NEVER = 1000000;

        private final Goings goings;
        private int[] floodedTo = new int[0];
        private int[] turns = new int[0];
        private int[] queue = new int[0];
        private int found = 0;

        private Forcing(Goings goings) {
            this.goings = goings;
        }

        /** Finds all placings that GOINGS and FLOODS with the TIDE can bring. */
        private void explore(int start) {
            if (turns.length < goings.placings()) {
                turns = new int[goings.placings()];
                floodedTo = new int[goings.placings()];
                queue = new int[goings.placings()];
            }
            Arrays.fill(floodedTo, NONE);
            Arrays.fill(turns, NEVER);
            found = 0;
            visit(start);
            for (int head = 0; head < found && head < queue.length; head++) {
                int placing = queue[head];
                int ends = goings.endsOf(placing);
                for (int bit = 0; bit < 8 * MOST_PEOPLE; bit++) {
                    if (hasBit(ends, bit)) {
                        visit(Goings.gone(placing, bit));
                    }
                }
                visit(floodedTo[placing]);
            }
        }

        private void visit(int placing) {
            if (placing < 0 || placing >= floodedTo.length || floodedTo[placing] != NONE || found >= queue.length) {
                return;
            }
            floodedTo[placing] = goings.ford.flooded(placing, goings.river.tide);
            queue[found] = placing;
            found++;
        }

        private int turnsFor(int start, int p) {
            if (start < 0 || start >= turns.length) {
                return NONE;
            }
            for (int i = 0; i < found; i++) {
                if (hasBit(goings.river.over(queue[i]), p)) {
                    turns[queue[i]] = 0;
                }
            }
            boolean grew = true;
            for (int n = 1; n <= found && grew && turns[start] == NEVER; n++) {
                grew = solve(n);
            }
            return turns[start] == NEVER ? NONE : turns[start];
        }

        /** Finds the placings from which just n turns will do; whether there is one. */
        private boolean solve(int n) {
            boolean grew = false;
            for (int i = 0; i < found; i++) {
                if (turns[queue[i]] == NEVER && firstGoing(queue[i], n) != NONE) {
                    turns[queue[i]] = n;
                    grew = true;
                }
            }
            return grew;
        }

        /** The first GOING, or STAY, behind which fewer than n turns more will do, whatever the river does. */
        private int firstGoing(int placing, int n) {
            int ends = goings.endsKept(placing);
            for (int bit = 0; bit < 8 * MOST_PEOPLE; bit++) {
                if (hasBit(ends, bit) && isWithin(Goings.gone(placing, bit), n)) {
                    return Goings.deedOf(bit);
                }
            }
            return isWithin(placing, n) ? STAY : NONE;
        }

        private boolean isWithin(int placing, int n) {
            return placing >= 0 && placing < turns.length && turns[placing] < n
                    && floodedTo[placing] != NONE && turns[floodedTo[placing]] < n;
        }
    }

    /** Rows over sets of the few PEOPLE, used again by each call. */
    private static final class Few {
        private final int[] orders = new int[SETS];
        private final int[] nexts = new int[SETS];
        private final int[] ways = new int[SETS];
        private final int[] nextWays = new int[SETS];
        private final int[] friends = new int[MOST_PEOPLE];
        private final int[] mates = new int[MOST_PEOPLE];
        private final int[] pairsIn = new int[SETS];

        private int mostPairs(int set) {
            return pairsIn[set & (SETS - 1)];
        }

        /** The most pairs of each set, then of everybody the first ones. */
        private void pairUp(int everybody) {
            for (int set = 0; set < SETS; set++) {
                pairsIn[set] = 0;
                int p = firstBit(set);
                for (int q = 0; q < MOST_PEOPLE; q++) {
                    if (p != NONE && canPair(p, q, set)) {
                        pairsIn[set] = Math.max(pairsIn[set], 1 + mostPairs(set & ~(1 << p | 1 << q)));
                    }
                }
                if (p != NONE) {
                    pairsIn[set] = Math.max(pairsIn[set], mostPairs(set & ~(1 << p)));
                }
            }
            Arrays.fill(mates, NONE);
            int free = everybody;
            for (int p = 0; p < MOST_PEOPLE; p++) {
                if (hasBit(free, p)) {
                    int q = firstMate(p, free);
                    free &= ~(1 << p);
                    if (q != NONE) {
                        free &= ~(1 << q);
                        mates[p] = q;
                        mates[q] = p;
                    }
                }
            }
        }

        private boolean canPair(int p, int q, int set) {
            return p != q && hasBit(set, p) && hasBit(set, q) && hasBit(friends[p], q);
        }

        private int firstMate(int p, int free) {
            for (int q = 0; q < MOST_PEOPLE; q++) {
                if (canPair(p, q, free)
                        && 1 + mostPairs(free & ~(1 << p | 1 << q)) == mostPairs(free)) {
                    return q;
                }
            }
            return NONE;
        }
    }

    /** Numbers of one sort. */
    private static final class Tray {
        private static final int ROOM = 40;

        private final long[] values = new long[ROOM];
        private int sort = 0;
        private int size = NONE;

        private boolean isMissing() {
            return size == NONE;
        }

        private void begin(int newSort, int newSize) {
            sort = newSort;
            size = newSize;
            Arrays.fill(values, 0L);
        }

        private void put(int i, long v) {
            if (i < 0 || i >= size || i >= ROOM) {
                return;
            }
            switch (sort) {
                case 0: values[i] = (byte) v; break;
                case 1: values[i] = (short) v; break;
                case 2: values[i] = (int) v; break;
                default: values[i] = v; break;
            }
        }

        private long at(int i) {
            return i >= 0 && i < ROOM ? values[i] : 0L;
        }
    }
}
