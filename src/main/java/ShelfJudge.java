import java.util.Arrays;

/**
 * A judge of shelves: a row of askings is served from a shelf with few places by nine ways to
 * choose what must go, and is set beside the least that any choice could pay.
 *
 * <p>All rows and tables are made in the constructor and used again, so that no call makes
 * anything.
 */
public final class ShelfJudge {
    /** A number is none, or none that may be. */
    public static final int NUMBER = -1;
    /** There are as many as may be. */
    public static final int FULL = -2;
    /** There is no latest run, or not what is wanted. */
    public static final int STATE = -3;
    /** A way for which that can't be. */
    public static final int KIND = -4;
    /** Too many unlike things. */
    public static final int LARGE = -5;

    // look() and level() have answers below 0 of their own, so their refusals lie far below these.
    private static final int FAR_NUMBER = -2147483648;
    private static final int FAR_KIND = -2147483647;

    private static final int THINGS = 16;
    private static final int MOST_ASKINGS = 300;
    private static final int MOST_PLACES = 8;
    private static final int MOST_PRICE = 1000;
    private static final int MOST_UNLIKE = 10;
    private static final int NOTHING = -1;

    private static final int OLDEST = 0;
    private static final int MARKING = 2;
    private static final int CLOCK = 3;
    private static final int RAREST = 4;
    private static final int TWOFOLD = 5;
    private static final int BALANCE = 6;
    private static final int GREEDY = 7;
    private static final int AHEAD = 8;

    private final Row row = new Row();
    private final Shelf run = new Shelf(row);
    private final Shelf trial = new Shelf(row);
    private final LeastTable table = new LeastTable(row);
    private final int[] coming = new int[5];
    private final int[] told = new int[MOST_ASKINGS];
    private final int[] runHits = new int[MOST_ASKINGS];
    private final int[] runGoings = new int[MOST_ASKINGS];
    private int toldCount;
    private int runMisses;
    private int runPaid;
    private boolean hasRun;

    public ShelfJudge() {
        toldCount = 0;
        hasRun = false;
    }

    // ---- things and askings

    public int price(int thing, int price) {
        if (!isThing(thing) || price < 1 || price > MOST_PRICE) {
            return NUMBER;
        }
        row.prices[thing] = price;
        forget();
        return 1;
    }

    public int ask(int a, int b, int c, int d, int e) {
        coming[0] = a;
        coming[1] = b;
        coming[2] = c;
        coming[3] = d;
        coming[4] = e;
        int n = 0;
        while (n < coming.length && coming[n] != -1) {
            if (!isThing(coming[n])) {
                return NUMBER;
            }
            n++;
        }
        if (row.size + n > MOST_ASKINGS) {
            return FULL;
        }
        for (int j = 0; j < n; j++) {
            row.append(coming[j]);
        }
        forget();
        return row.size;
    }

    public int draw(int n, int m, int seed) {
        if (n < 0 || n > MOST_ASKINGS || m < 1 || m > THINGS) {
            return NUMBER;
        }
        if (row.size + n > MOST_ASKINGS) {
            return FULL;
        }
        int x = seed;
        for (int j = 0; j < n; j++) {
            x = 1103515245 * x + 12345;
            row.append((x >>> 16) % m);
        }
        forget();
        return row.size;
    }

    public int change(int i, int thing) {
        if (!row.has(i) || !isThing(thing)) {
            return NUMBER;
        }
        row.things[i] = thing;
        forget();
        return 1;
    }

    public int cut(int n) {
        if (n < 0 || n > row.size) {
            return NUMBER;
        }
        row.size = n;
        forget();
        return n;
    }

    public int asked(int i) {
        return row.has(i) ? row.things[i] : -1;
    }

    public int many(int what) {
        switch (what) {
            case 0:
                return row.size;
            case 1:
                return row.unlike();
            case 2:
                return toldCount;
            case 3:
                return row.priceOfAll();
            default:
                return -1;
        }
    }

    // ---- runs

    public int serve(int way, int k) {
        if (!isWay(way) || !isPlaces(k)) {
            return NUMBER;
        }
        run.begin(way, k);
        runMisses = 0;
        runPaid = 0;
        for (int i = 0; i < row.size; i++) {
            runGoings[i] = run.step();
            runHits[i] = run.wasHit ? 1 : 0;
            if (!run.wasHit) {
                runMisses++;
                runPaid += row.priceAt(i);
            }
        }
        hasRun = true;
        return runMisses;
    }

    public int paid() {
        return hasRun ? runPaid : STATE;
    }

    public int hit(int i) {
        if (!hasRun) {
            return STATE;
        }
        return row.has(i) ? runHits[i] : -1;
    }

    public int gone(int i) {
        return hasRun && row.has(i) ? runGoings[i] : NOTHING;
    }

    public int look(int i, int thing, int what) {
        if (!hasRun) {
            return STATE;
        }
        if (!row.has(i) || !isThing(thing) || what < 0 || what > 5) {
            return FAR_NUMBER;
        }
        if (!run.knowsOfThing(what)) {
            return FAR_KIND;
        }
        run.standBehind(i);
        return run.tellOfThing(thing, what);
    }

    public int level(int i, int how) {
        if (!hasRun) {
            return STATE;
        }
        if (!row.has(i) || how < 0 || how > 4) {
            return FAR_NUMBER;
        }
        if (!run.knowsOfAll(how)) {
            return FAR_KIND;
        }
        run.standBehind(i);
        return run.tellOfAll(how);
    }

    public int fewest(int k) {
        if (!isPlaces(k)) {
            return NUMBER;
        }
        int best = OLDEST;
        int bestMisses = trial.missesBy(OLDEST, k);
        for (int way = OLDEST + 1; way < AHEAD; way++) {
            int misses = trial.missesBy(way, k);
            if (misses < bestMisses) {
                best = way;
                bestMisses = misses;
            }
        }
        return best;
    }

    public int share() {
        if (!hasRun) {
            return STATE;
        }
        if (row.size < 1) {
            return NUMBER;
        }
        int hits = row.size - runMisses;
        float part = (float) hits / row.size;
        return (int) (part * 10000);
    }

    // ---- the least, phases, distances

    public int least(int k) {
        if (!isPlaces(k)) {
            return NUMBER;
        }
        if (row.unlike() > MOST_UNLIKE) {
            return LARGE;
        }
        table.prepare(k);
        return table.sum;
    }

    public int goes(int k, int i) {
        if (!row.has(i) || !isPlaces(k) || row.unlike() > MOST_UNLIKE) {
            return NOTHING;
        }
        table.prepare(k);
        return table.plan[i];
    }

    public int phases(int k) {
        if (!isPlaces(k)) {
            return NUMBER;
        }
        return row.size < 1 ? 0 : row.phaseAt(k, row.size - 1) + 1;
    }

    public int phase(int k, int i) {
        return row.has(i) && isPlaces(k) ? row.phaseAt(k, i) : -1;
    }

    public int distance(int i) {
        return row.has(i) ? row.distanceAt(i) : -1;
    }

    public int curve(int k) {
        if (k < 0) {
            return NUMBER;
        }
        int n = 0;
        for (int i = 0; i < row.size; i++) {
            int far = row.distanceAt(i);
            if (far == 0 || far > k) {
                n++;
            }
        }
        return n;
    }

    public int hard(int way, int k, int n) {
        if (!isWay(way) || !isPlaces(k) || n < 0 || n > MOST_ASKINGS) {
            return NUMBER;
        }
        if (way == AHEAD) {
            return KIND;
        }
        row.size = 0;
        trial.begin(way, k);
        for (int j = 0; j < n; j++) {
            row.append(trial.leastAbsent());
            trial.step();
        }
        forget();
        return n;
    }

    // ---- told goings

    public int claim(int thing) {
        if (thing != NOTHING && !isThing(thing)) {
            return NUMBER;
        }
        if (toldCount >= MOST_ASKINGS) {
            return FULL;
        }
        told[toldCount] = thing;
        toldCount++;
        return toldCount;
    }

    public int copy() {
        if (!hasRun) {
            return STATE;
        }
        System.arraycopy(runGoings, 0, told, 0, row.size);
        toldCount = row.size;
        return toldCount;
    }

    public int unclaim() {
        int n = toldCount;
        toldCount = 0;
        return n;
    }

    public int cost(int k) {
        if (!isPlaces(k)) {
            return NUMBER;
        }
        int lying = 0;
        int sum = 0;
        for (int i = 0; i < row.size; i++) {
            int bit = 1 << row.things[i];
            if (i >= toldCount || !canGo(told[i], lying, bit, k)) {
                return -2 - i;
            }
            if ((lying & bit) == 0) {
                sum += row.priceAt(i);
            }
            if (told[i] != NOTHING) {
                lying &= ~(1 << told[i]);
            }
            lying |= bit;
        }
        return toldCount > row.size ? -2 - row.size : sum;
    }

    public int check(int way, int k) {
        if (!isWay(way) || !isPlaces(k)) {
            return -2;
        }
        trial.begin(way, k);
        for (int i = 0; i < row.size; i++) {
            if (i >= toldCount || told[i] != trial.step()) {
                return i;
            }
        }
        return toldCount > row.size ? row.size : -1;
    }

    // ---- what the calls share

    /** Both are by THE ROW and its PRICES, so neither outlives a change of these. */
    private void forget() {
        hasRun = false;
        table.places = 0;
    }

    private static boolean isThing(int thing) {
        return thing >= 0 && thing < THINGS;
    }

    private static boolean isWay(int way) {
        return way >= OLDEST && way <= AHEAD;
    }

    private static boolean isPlaces(int k) {
        return k >= 1 && k <= MOST_PLACES;
    }

    /** Whether a told thing (or nothing) can go from what is lying when the one of a bit is asked for. */
    private static boolean canGo(int thing, int lying, int bit, int k) {
        boolean mustGo = (lying & bit) == 0 && Integer.bitCount(lying) >= k;
        if (!mustGo) {
            return thing == NOTHING;
        }
        return isThing(thing) && (lying & (1 << thing)) != 0;
    }

    /** THE ROW, with the PRICES of all THINGS. */
    private static final class Row {
        final int[] things = new int[MOST_ASKINGS];
        final int[] prices = new int[THINGS];
        final int[] next = new int[MOST_ASKINGS];
        final int[] soonest = new int[THINGS];
        int size;

        Row() {
            Arrays.fill(prices, 1);
        }

        boolean has(int i) {
            return i >= 0 && i < size;
        }

        void append(int thing) {
            if (size < MOST_ASKINGS) {
                things[size] = thing;
                size++;
            }
        }

        int priceAt(int i) {
            return prices[things[i]];
        }

        int priceOfAll() {
            int sum = 0;
            for (int i = 0; i < size; i++) {
                sum += priceAt(i);
            }
            return sum;
        }

        /** A bit for each THING that is asked for. */
        int bits() {
            int bits = 0;
            for (int i = 0; i < size; i++) {
                bits |= 1 << things[i];
            }
            return bits;
        }

        int unlike() {
            return Integer.bitCount(bits());
        }

        int phaseAt(int k, int i) {
            int number = 0;
            int seen = 0;
            for (int j = 0; j <= i; j++) {
                int bit = 1 << things[j];
                if (Integer.bitCount(seen | bit) > k) {
                    number++;
                    seen = 0;
                }
                seen |= bit;
            }
            return number;
        }

        int distanceAt(int i) {
            int between = 1 << things[i];
            for (int j = i - 1; j >= 0; j--) {
                if (things[j] == things[i]) {
                    return Integer.bitCount(between);
                }
                between |= 1 << things[j];
            }
            return 0;
        }

        /** Finds for each ASKING the next one for the same THING; there is none: MOST_ASKINGS. */
        void findNext() {
            Arrays.fill(soonest, MOST_ASKINGS);
            for (int i = size - 1; i >= 0; i--) {
                next[i] = soonest[things[i]];
                soonest[things[i]] = i;
            }
        }
    }

    /**
     * A SHELF that is served from THE ROW, ASKING by ASKING. By all WAYS what lies there is in
     * ONCE; only TWOFOLD and BALANCE have more parts. Marks and credits are kept for all WAYS, as
     * only those look at them to which they belong.
     */
    private static final class Shelf {
        static final int NOWHERE = 0;
        static final int ONCE = 1;
        static final int TWICE = 2;
        static final int FIRST_BOOK = 3;
        static final int SECOND_BOOK = 4;
        static final int PARTS = 5;

        final Row row;
        final int[] part = new int[THINGS];
        final int[] inPart = new int[PARTS];
        final int[] since = new int[THINGS];
        final int[] latest = new int[THINGS];
        final int[] times = new int[THINGS];
        final int[] credit = new int[THINGS];
        final int[] place = new int[THINGS];
        final int[] thingAt = new int[MOST_PLACES];
        int way;
        int places;
        int served;
        int marks;
        int rounds;
        int hand;
        int onceShare;
        int height;
        boolean wasHit;

        Shelf(Row row) {
            this.row = row;
            places = 1;
        }

        void begin(int newWay, int newPlaces) {
            way = newWay;
            places = newPlaces;
            Arrays.fill(part, NOWHERE);
            Arrays.fill(inPart, 0);
            served = 0;
            marks = 0;
            rounds = 0;
            hand = 0;
            onceShare = 0;
            height = 0;
            if (way == AHEAD) {
                row.findNext();
            }
        }

        int missesBy(int newWay, int newPlaces) {
            begin(newWay, newPlaces);
            int misses = 0;
            for (int i = 0; i < row.size; i++) {
                step();
                if (!wasHit) {
                    misses++;
                }
            }
            return misses;
        }

        void standBehind(int i) {
            if (served > i + 1) {
                begin(way, places);
            }
            for (int j = served; j <= i; j++) {
                step();
            }
        }

        /** Serves the next ASKING: what went. */
        int step() {
            if (!row.has(served)) {
                return NOTHING;
            }
            int thing = row.things[served];
            int going = NOTHING;
            wasHit = lies(thing);
            if (wasHit) {
                meet(thing);
            } else {
                going = bring(thing);
            }
            credit[thing] = height + row.prices[thing];
            latest[thing] = served;
            served++;
            return going;
        }

        boolean lies(int thing) {
            return part[thing] == ONCE || part[thing] == TWICE;
        }

        int lying() {
            return inPart[ONCE] + inPart[TWICE];
        }

        /** The least of the THINGS 0 to k that doesn't lie there: of k + 1 there always is one. */
        int leastAbsent() {
            int thing = 0;
            while (thing < places && lies(thing)) {
                thing++;
            }
            return thing;
        }

        boolean hasBooks() {
            return way == TWOFOLD || way == BALANCE;
        }

        void meet(int thing) {
            times[thing]++;
            marks |= 1 << thing;
            if (hasBooks()) {
                move(thing, TWICE);
            }
        }

        int bring(int thing) {
            int to = partFor(thing);
            int spot = lying();
            int going = NOTHING;
            if (spot >= places) {
                going = chooseGoing();
                spot = place[going];
                takeAway(going);
            }
            times[thing] = 1;
            place[thing] = spot;
            thingAt[spot] = thing;
            if (way == MARKING) {
                marks |= 1 << thing;
            }
            move(thing, to);
            return going;
        }

        /** The part to which a THING will come; if it is in a BOOK it is struck out there. */
        int partFor(int thing) {
            int from = part[thing];
            if (from == NOWHERE) {
                return ONCE;
            }
            if (way == BALANCE && from == FIRST_BOOK) {
                onceShare = Math.min(places, onceShare + 1);
            } else if (way == BALANCE) {
                onceShare = Math.max(0, onceShare - 1);
            }
            move(thing, NOWHERE);
            return TWICE;
        }

        /** What must go from a full SHELF. */
        int chooseGoing() {
            switch (way) {
                case MARKING:
                    endFullRound();
                    return firstOf(ONCE);
                case CLOCK:
                    return turnHand();
                case TWOFOLD:
                    return firstOf(partThatLoses(places / 4));
                case BALANCE:
                    return firstOf(partThatLoses(onceShare));
                default:
                    return firstOf(ONCE);
            }
        }

        void endFullRound() {
            if (Integer.bitCount(marks) >= places) {
                marks = 0;
                rounds++;
            }
        }

        /** Turns THE HAND past all that is MARKED: what lies where it halts. */
        int turnHand() {
            for (int j = 0; j < places && (marks & (1 << thingAt[hand])) != 0; j++) {
                marks &= ~(1 << thingAt[hand]);
                moveHandOn();
            }
            int going = thingAt[hand];
            moveHandOn();
            return going;
        }

        void moveHandOn() {
            hand = hand + 1 < places ? hand + 1 : 0;
        }

        int partThatLoses(int onceMay) {
            return inPart[ONCE] > onceMay || inPart[TWICE] == 0 ? ONCE : TWICE;
        }

        /** Of a part that isn't empty the THING that goes from it before all others. */
        int firstOf(int from) {
            int first = 0;
            int firstKey = 0;
            boolean found = false;
            for (int thing = 0; thing < THINGS; thing++) {
                boolean kept = way == MARKING && (marks & (1 << thing)) != 0;
                if (part[thing] == from && !kept) {
                    int key = keyOf(thing);
                    if (!found || key < firstKey) {
                        first = thing;
                        firstKey = key;
                        found = true;
                    }
                }
            }
            return first;
        }

        /** A THING with a lesser key goes earlier; of equal ones, which only AHEAD has, the least THING. */
        int keyOf(int thing) {
            switch (way) {
                case OLDEST:
                    return since[thing];
                case RAREST:
                    return times[thing] * MOST_ASKINGS + latest[thing];
                case TWOFOLD:
                case BALANCE:
                    return part[thing] == TWICE ? latest[thing] : since[thing];
                case GREEDY:
                    return credit[thing] * MOST_ASKINGS + latest[thing];
                case AHEAD:
                    return -row.next[latest[thing]];
                default:
                    return latest[thing];
            }
        }

        /** It needs no mark taken: by the WAYS that look at marks nothing MARKED ever goes. */
        void takeAway(int thing) {
            if (way == GREEDY) {
                height = credit[thing];
            }
            int book = bookFor(thing);
            if (book != NOWHERE && inPart[book] >= places) {
                move(firstOf(book), NOWHERE);
            }
            move(thing, book);
        }

        /** The BOOK to which a THING that lies there comes when it goes; NOWHERE if to none. */
        int bookFor(int thing) {
            if (hasBooks() && part[thing] == ONCE) {
                return FIRST_BOOK;
            }
            return way == BALANCE ? SECOND_BOOK : NOWHERE;
        }

        void move(int thing, int to) {
            inPart[part[thing]]--;
            inPart[to]++;
            part[thing] = to;
            since[thing] = served;
        }

        boolean knowsOfThing(int what) {
            switch (what) {
                case 2:
                    return way == MARKING || way == CLOCK;
                case 3:
                    return way == CLOCK;
                case 4:
                    return hasBooks();
                case 5:
                    return way == GREEDY;
                default:
                    return true;
            }
        }

        int tellOfThing(int thing, int what) {
            switch (what) {
                case 0:
                    return lies(thing) ? 1 : 0;
                case 1:
                    return lies(thing) ? times[thing] : 0;
                case 2:
                    return (marks >> thing) & 1;
                case 3:
                    return lies(thing) ? place[thing] : -1;
                case 4:
                    return part[thing];
                default:
                    return lies(thing) ? credit[thing] : 0;
            }
        }

        boolean knowsOfAll(int how) {
            switch (how) {
                case 1:
                    return way == MARKING;
                case 2:
                    return way == CLOCK;
                case 3:
                    return way == BALANCE;
                case 4:
                    return way == GREEDY;
                default:
                    return true;
            }
        }

        int tellOfAll(int how) {
            switch (how) {
                case 1:
                    return rounds;
                case 2:
                    return hand;
                case 3:
                    return onceShare;
                case 4:
                    return height;
                default:
                    return lying();
            }
        }
    }

    /**
     * The table by which THE LEAST is found, for a ROW of at most MOST_UNLIKE unlike THINGS. What
     * lies there is a mask with a bit for each of these, in the order of the THINGS. Nothing goes
     * until the SHELF is full, and from then on it stays so: only masks of k bits count.
     */
    private static final class LeastTable {
        static final int MASKS = 1 << MOST_UNLIKE;
        static final int MOST_FULL_MASKS = 252;
        // A choice needs 4 bits; 16 of them lie in a long, for the room's sake.
        static final int LONGS_OF_ASKING = 16;

        final Row row;
        final int[] bitOf = new int[THINGS];
        // As long as a kept choice could ever reach, though only MOST_UNLIKE are used.
        final int[] thingOf = new int[THINGS];
        final int[] fullMasks = new int[MOST_FULL_MASKS];
        final int[] rankOf = new int[MASKS];
        final int[] due = new int[MASKS];
        final long[] choices = new long[MOST_ASKINGS * LONGS_OF_ASKING];
        final int[] plan = new int[MOST_ASKINGS];
        int unlike;
        int fullCount;
        int places;
        int sum;

        LeastTable(Row row) {
            this.row = row;
            places = 0;
        }

        /** Finds sum and plan for k PLACES, if they aren't found already. */
        void prepare(int k) {
            if (places == k) {
                return;
            }
            places = k;
            sum = 0;
            Arrays.fill(plan, NOTHING);
            numberThings();
            listFullMasks();
            int mask = 0;
            int start = 0;
            while (start < row.size && Integer.bitCount(mask) < k) {
                int bit = 1 << bitOf[row.things[start]];
                if ((mask & bit) == 0) {
                    sum += row.priceAt(start);
                }
                mask |= bit;
                start++;
            }
            for (int i = row.size - 1; i >= start; i--) {
                fillAsking(i);
            }
            sum += due[mask];
            followChoices(mask, start);
        }

        void numberThings() {
            int bits = row.bits();
            unlike = 0;
            for (int thing = 0; thing < THINGS; thing++) {
                if ((bits & (1 << thing)) != 0 && unlike < MOST_UNLIKE) {
                    bitOf[thing] = unlike;
                    thingOf[unlike] = thing;
                    unlike++;
                }
            }
        }

        void listFullMasks() {
            fullCount = 0;
            for (int mask = 0; mask < 1 << unlike; mask++) {
                due[mask] = 0;
                if (Integer.bitCount(mask) == places && fullCount < MOST_FULL_MASKS) {
                    fullMasks[fullCount] = mask;
                    rankOf[mask] = fullCount;
                    fullCount++;
                }
            }
        }

        /**
         * Makes of what is due behind ASKING i what is due ahead of it. It can be done in place:
         * masks with its THING keep theirs, and the others look at those alone.
         */
        void fillAsking(int i) {
            int bit = 1 << bitOf[row.things[i]];
            int price = row.priceAt(i);
            for (int j = 0; j < fullCount; j++) {
                int mask = fullMasks[j];
                if ((mask & bit) == 0) {
                    int choice = bestChoice(mask, bit);
                    due[mask] = price + due[mask ^ (1 << choice) | bit];
                    keepChoice(i, j, choice);
                }
            }
        }

        /** Of a mask the least bit by whose going the least is due when another one comes. */
        int bestChoice(int mask, int comes) {
            int best = 0;
            int bestDue = 0;
            boolean found = false;
            for (int j = 0; j < unlike; j++) {
                if ((mask & (1 << j)) != 0) {
                    int then = due[mask ^ (1 << j) | comes];
                    if (!found || then < bestDue) {
                        best = j;
                        bestDue = then;
                        found = true;
                    }
                }
            }
            return best;
        }

        void followChoices(int startMask, int start) {
            int mask = startMask;
            for (int i = start; i < row.size; i++) {
                int bit = 1 << bitOf[row.things[i]];
                if ((mask & bit) == 0) {
                    int choice = keptChoice(i, rankOf[mask]);
                    plan[i] = thingOf[choice];
                    mask = mask ^ (1 << choice) | bit;
                }
            }
        }

        void keepChoice(int i, int rank, int choice) {
            int at = i * LONGS_OF_ASKING + (rank >> 4);
            int shift = (rank & 15) * 4;
            choices[at] = choices[at] & ~(15L << shift) | (long) choice << shift;
        }

        int keptChoice(int i, int rank) {
            int at = i * LONGS_OF_ASKING + (rank >> 4);
            return (int) (choices[at] >> (rank & 15) * 4) & 15;
        }
    }
}
