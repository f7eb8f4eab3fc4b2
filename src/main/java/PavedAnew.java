/**
 * A STREET of wooden BLOCKS that is laid anew each spring by THE LAW, a text.
 * Words in capitals are those of the document (../shared/DOC.md).
 */
public final class PavedAnew {
    public static final int NONE = -1, UNKNOWN = -101, OUTSIDE = -102, STATE = -103, FULL = -104;

    private static final int PLACES = 7;
    private static final int FEWEST_BLOCKS = 2;
    private static final int ANY_BLOCK = 0, OAK = 1, SPLIT = 2, TWIN = 3, MARKED = 4, KINDS = 5;
    private static final int MOST_WEAR = 999;
    private static final int MOST_WHEELS = 9;
    private static final int MOST_LETTERS = 16;
    private static final int MOST_YEARS = 99;
    private static final int MOST_SPRINGS = 12;
    private static final int MOST_SEARCHES = 40;
    private static final int MOST_LOOKS_BACK = 40;
    private static final int MOST_FORECASTS = 10;

    private final Page page = new Page();
    private final Law theLaw = new Law();
    private final Street street = new Street();
    private final Street kept = new Street();
    private final Order wanted = new Order();
    private final Layings layings = new Layings();
    private final LastYear lastYear = new LastYear();
    private final Forecast forecast = new Forecast();
    private boolean imageKept;
    private int lawsRead;
    private int searches;
    private int looksBack;
    private int forecasts;

    public PavedAnew() {
    }

    // ---- the law

    public int letters(long w) {
        int more = Page.lettersIn(w);
        if (more == NONE) {
            return OUTSIDE;
        }
        if (page.length() + more > MOST_LETTERS) {
            return FULL;
        }
        page.append(w, more);
        return page.length();
    }

    public int blank() {
        int had = page.length();
        page.clear();
        return had;
    }

    public int fault() {
        return page.firstWrong();
    }

    public int law() {
        if (!page.isLaw()) {
            return STATE;
        }
        theLaw.readFrom(page);
        page.clear();
        lawsRead++;
        return lawsRead;
    }

    public int lawTold(int what) {
        return isWithin(what, 0, 3) ? theLaw.told(what) : OUTSIDE;
    }

    // ---- blocks

    public int block(int kind, int above, int below) {
        if (!isKind(kind) || !isWithin(above, 0, MOST_WEAR) || !isWithin(below, 0, MOST_WEAR)) {
            return OUTSIDE;
        }
        return street.add(kind, above, below);
    }

    public int about(int block, int what) {
        if (!street.hasBlock(block)) {
            return UNKNOWN;
        }
        return isWithin(what, 0, 4) ? street.told(block, what) : OUTSIDE;
    }

    public int as(int block, int kind) {
        if (!street.hasBlock(block)) {
            return UNKNOWN;
        }
        if (!isKind(kind)) {
            return OUTSIDE;
        }
        return isAlso(street.kindOf(block), kind) ? block : NONE;
    }

    public int wheels(int place, int v) {
        if (!isWithin(place, 0, PLACES - 1)) {
            return UNKNOWN;
        }
        return isWithin(v, 0, MOST_WHEELS) ? street.changeWheels(place, v) : OUTSIDE;
    }

    public int at(int place) {
        // there are as many PLACES as BLOCKS, so one test serves for both
        return street.hasBlock(place) ? street.blockIn(place) : UNKNOWN;
    }

    public int turn(int block) {
        if (!street.hasBlock(block)) {
            return UNKNOWN;
        }
        if (street.kindOf(block) == MARKED) {
            return STATE;
        }
        street.turnOver(block);
        return street.aboveOf(block);
    }

    public int thief(int block) {
        if (!street.hasBlock(block)) {
            return UNKNOWN;
        }
        if (street.size() <= FEWEST_BLOCKS) {
            return STATE;
        }
        street.takeAway(block);
        return street.size();
    }

    // ---- springs (STATE: fewer than two BLOCKS)

    public int lay(int order) {
        if (isTooShort()) {
            return STATE;
        }
        if (!wanted.read(order, street.size())) {
            return OUTSIDE;
        }
        if (!theLaw.allows(street, wanted)) {
            return STATE;
        }
        street.putDown(wanted, theLaw.turns());
        return street.worstWear();
    }

    public int lawful(int order) {
        if (isTooShort()) {
            return STATE;
        }
        if (!wanted.read(order, street.size())) {
            return OUTSIDE;
        }
        return theLaw.allows(street, wanted) ? 1 : 0;
    }

    public int years(int years) {
        if (isTooShort()) {
            return STATE;
        }
        if (!isWithin(years, 1, MOST_YEARS)) {
            return OUTSIDE;
        }
        for (int year = 0; year < years; year++) {
            street.wearForAYear();
        }
        return street.worstWear();
    }

    public int worst() {
        return isTooShort() ? STATE : street.worstWear();
    }

    public int best(int what) {
        if (isTooShort()) {
            return STATE;
        }
        if (!isWithin(what, 0, 1)) {
            return OUTSIDE;
        }
        if (searches >= MOST_SEARCHES) {
            return STATE;
        }
        searches++;
        layings.study(street, theLaw);
        if (layings.ordersFound() == 0) {
            return NONE;
        }
        return what == 0 ? layings.leastWorst() : layings.bestOrder().told();
    }

    public int howMany() {
        if (isTooShort() || searches >= MOST_SEARCHES) {
            return STATE;
        }
        searches++;
        layings.study(street, theLaw);
        return layings.ordersFound();
    }

    public int carried(int order, int what) {
        if (isTooShort()) {
            return STATE;
        }
        if (!wanted.read(order, street.size()) || !isWithin(what, 0, 2)) {
            return OUTSIDE;
        }
        return Carrying.told(street, wanted, what);
    }

    public int flood(int seed) {
        if (isTooShort()) {
            return STATE;
        }
        return seed < 0 ? OUTSIDE : Flood.swim(street, seed);
    }

    public int looks() {
        return isTooShort() ? STATE : street.looksNeeded();
    }

    // ---- last year, springs to come

    public int was(int block, int v) {
        if (!street.hasBlock(block)) {
            return UNKNOWN;
        }
        return isWithin(v, NONE, MOST_WEAR) ? street.changeWas(block, v) : OUTSIDE;
    }

    public int last(int what) {
        if (isTooShort()) {
            return STATE;
        }
        if (!isWithin(what, 0, 1)) {
            return OUTSIDE;
        }
        if (looksBack >= MOST_LOOKS_BACK) {
            return STATE;
        }
        looksBack++;
        lastYear.study(street);
        if (what == 0) {
            return lastYear.ordersFound();
        }
        return lastYear.ordersFound() == 0 ? NONE : lastYear.firstOrder().told();
    }

    public int sure(int block) {
        if (!street.hasBlock(block)) {
            return UNKNOWN;
        }
        if (isTooShort() || looksBack >= MOST_LOOKS_BACK) {
            return STATE;
        }
        looksBack++;
        lastYear.study(street);
        return lastYear.surePlaceOf(block);
    }

    public int springs(int springs, int what) {
        if (isTooShort()) {
            return STATE;
        }
        if (!isWithin(springs, 1, MOST_SPRINGS) || !isWithin(what, 0, 2)) {
            return OUTSIDE;
        }
        if (forecasts >= MOST_FORECASTS) {
            return STATE;
        }
        forecasts++;
        forecast.run(street, theLaw, layings, springs);
        return forecast.told(what);
    }

    // ---- what is told

    public int image() {
        kept.copyFrom(street);
        imageKept = true;
        return street.size();
    }

    public int restore() {
        if (!imageKept) {
            return STATE;
        }
        street.copyFrom(kept);
        return street.size();
    }

    public int count(int what) {
        switch (what) {
            case 0: return street.size();
            case 1: return page.length();
            case 2: return lawsRead;
            case 3: return searches;
            case 4: return looksBack;
            case 5: return forecasts;
            case 6: return street.wheelsInUse();
            default: return OUTSIDE;
        }
    }

    public long digest() {
        long h = 599L;
        for (int what = 0; what <= 3; what++) {
            h = mix(h, theLaw.told(what));
        }
        h = mixBlocks(h);
        for (int place = 0; place < PLACES; place++) {
            h = mix(h, street.wheelsIn(place));
        }
        if (!isTooShort()) {
            h = mixLaying(h);
        }
        for (int i = 0; i < page.length(); i++) {
            h = mix(h, page.letterAt(i));
        }
        for (int what = 0; what <= 6; what++) {
            h = mix(h, count(what));
        }
        return h;
    }

    private long mixBlocks(long before) {
        long h = before;
        for (int block = 0; block < street.size(); block++) {
            for (int what = 0; what <= 4; what++) {
                h = mix(h, street.told(block, what));
            }
        }
        return h;
    }

    private long mixLaying(long before) {
        long h = mix(before, street.worstWear());
        h = mix(h, street.looksNeeded());
        wanted.turnRound(street);
        h = mix(h, theLaw.allows(street, wanted) ? 1 : 0);
        for (int what = 0; what <= 2; what++) {
            h = mix(h, Carrying.told(street, wanted, what));
        }
        return h;
    }

    private boolean isTooShort() {
        return street.size() < FEWEST_BLOCKS;
    }

    private static long mix(long h, long number) {
        return 31L * h + number;
    }

    private static boolean isWithin(int number, int least, int most) {
        return number >= least && number <= most;
    }

    private static boolean isKind(int number) {
        return isWithin(number, 0, KINDS - 1);
    }

    private static boolean isAlso(int kind, int wanted) {
        return wanted == ANY_BLOCK || kind == wanted || (wanted == OAK && kind == MARKED);
    }

    /** THE PAGE: letters that may become THE LAW. */
    private static final class Page {
        private static final int LETTERS_AT_ONCE = 8;
        private static final int MOST_CODE = 126;

        // how far a reader has come in a LAW: behind "n", "t", "w", "m", MOST
        static final int AHEAD = 0, BEHIND_N = 1, BEHIND_T = 2, BEHIND_W = 3, BEHIND_M = 4, BEHIND_MOST = 5;

        private final int[] codes = new int[MOST_LETTERS];
        private int length;

        int length() {
            return length;
        }

        int letterAt(int i) {
            return i >= 0 && i < length ? codes[i] : 0;
        }

        void clear() {
            length = 0;
        }

        /** How many letters a number tells; NONE if it tells them wrongly. */
        static int lettersIn(long w) {
            int letters = 0;
            boolean ended = false;
            for (int i = 0; i < LETTERS_AT_ONCE; i++) {
                int code = codeIn(w, i);
                if (code > MOST_CODE || (ended && code != 0)) {
                    return NONE;
                }
                if (code == 0) {
                    ended = true;
                } else {
                    letters++;
                }
            }
            return letters;
        }

        void append(long w, int letters) {
            for (int i = 0; i < letters && length < MOST_LETTERS; i++) {
                codes[length] = codeIn(w, i);
                length++;
            }
        }

        private static int codeIn(long w, int i) {
            return (int) (w >>> (8 * i)) & 255;
        }

        int firstWrong() {
            int reached = AHEAD;
            for (int i = 0; i < length; i++) {
                reached = reachedBy(reached, codes[i]);
                if (reached == NONE) {
                    return i;
                }
            }
            return length;
        }

        boolean isLaw() {
            int reached = AHEAD;
            for (int i = 0; i < length && reached != NONE; i++) {
                reached = reachedBy(reached, codes[i]);
            }
            return reached != NONE && reached != BEHIND_M;
        }

        /** How far a letter brings a reader; NONE if no LAW has it there. */
        static int reachedBy(int reached, int letter) {
            if (reached == BEHIND_M) {
                return isWithin(letter, '1', '9') ? BEHIND_MOST : NONE;
            }
            int then = partOf(letter);
            return then > reached ? then : NONE;
        }

        private static int partOf(int letter) {
            switch (letter) {
                case 'n': return BEHIND_N;
                case 't': return BEHIND_T;
                case 'w': return BEHIND_W;
                case 'm': return BEHIND_M;
                default: return AHEAD;
            }
        }
    }

    /** THE LAW that holds. */
    private static final class Law {
        private static final int MOST_IF_NOT_TOLD = 10;

        private boolean neighboursNew;
        private boolean turns;
        private boolean twinsTogether;
        private int most = MOST_IF_NOT_TOLD;

        /** Reads a page that is known to be a LAW. */
        void readFrom(Page page) {
            neighboursNew = false;
            turns = false;
            twinsTogether = false;
            most = MOST_IF_NOT_TOLD;
            int reached = Page.AHEAD;
            for (int i = 0; i < page.length(); i++) {
                reached = Page.reachedBy(reached, page.letterAt(i));
                take(reached, page.letterAt(i));
            }
        }

        private void take(int reached, int letter) {
            switch (reached) {
                case Page.BEHIND_N: neighboursNew = true; break;
                case Page.BEHIND_T: turns = true; break;
                case Page.BEHIND_W: twinsTogether = true; break;
                case Page.BEHIND_MOST: most = letter - '0'; break;
                default: break;
            }
        }

        int told(int what) {
            switch (what) {
                case 0: return neighboursNew ? 1 : 0;
                case 1: return turns ? 1 : 0;
                case 2: return twinsTogether ? 1 : 0;
                default: return most;
            }
        }

        boolean turns() {
            return turns;
        }

        boolean wantsTwinsTogether() {
            return twinsTogether;
        }

        /** The wear at which, on both HEADS, a BLOCK is BURNT. */
        int burningWear() {
            return most * 100;
        }

        boolean letsLieTogether(Street street, int block, int other) {
            return !neighboursNew || !street.lieTogether(block, other);
        }

        /** Whether an ORDER is LAWFUL, by how the BLOCKS lie in the STREET. */
        boolean allows(Street street, Order order) {
            for (int place = 0; place < order.size(); place++) {
                int block = order.blockIn(place);
                if (place > 0 && !letsLieTogether(street, order.blockIn(place - 1), block)) {
                    return false;
                }
                if (twinsTogether && street.isTwin(block) && !hasTwinBeside(street, order, place)) {
                    return false;
                }
            }
            return true;
        }

        private static boolean hasTwinBeside(Street street, Order order, int place) {
            return (place > 0 && street.isTwin(order.blockIn(place - 1)))
                    || (place + 1 < order.size() && street.isTwin(order.blockIn(place + 1)));
        }
    }

    /** An ORDER: the BLOCK for each PLACE. */
    private static final class Order {
        private final int[] blocks = new int[PLACES];
        private int size;

        int size() {
            return size;
        }

        int blockIn(int place) {
            return place >= 0 && place < size ? blocks[place] : 0;
        }

        void clear() {
            size = 0;
        }

        void append(int block) {
            if (size < PLACES) {
                blocks[size] = block;
                size++;
            }
        }

        /** Takes an ORDER from its number; false if the number is no ORDER of so many BLOCKS. */
        boolean read(int number, int ofBlocks) {
            clear();
            int rest = number;
            int seen = 0;
            for (int place = 0; place < ofBlocks && rest >= 0; place++) {
                int block = rest & 7;
                if (block >= ofBlocks || (seen >> block & 1) == 1) {
                    return false;
                }
                seen |= 1 << block;
                append(block);
                rest >>= 3;
            }
            return rest == 0;
        }

        /** Takes the ORDER in which the BLOCKS lie, the last one first. */
        void turnRound(Street street) {
            clear();
            for (int place = street.size() - 1; place >= 0; place--) {
                append(street.blockIn(place));
            }
        }

        int told() {
            int number = 0;
            for (int place = size - 1; place >= 0; place--) {
                number = number << 3 | blocks[place];
            }
            return number;
        }
    }

    /**
     * All that an IMAGE keeps: BLOCKS, how they lie, HEADS, WHEELS, WAS. There are never more BLOCKS than
     * PLACES, and each PLACE below that number has its own: who asks names a BLOCK that is there, or a PLACE
     * of the seven, so that no index leaves the rows.
     */
    private static final class Street {
        private final int[] kinds = new int[PLACES];
        private final int[] above = new int[PLACES];
        private final int[] below = new int[PLACES];
        private final int[] yearAgo = new int[PLACES];
        private final int[] places = new int[PLACES];
        private final int[] lying = new int[PLACES];
        private final int[] wheelsIn = new int[PLACES];
        private int size;

        Street() {
            for (int place = 0; place < PLACES; place++) {
                wheelsIn[place] = 1;
            }
        }

        int size() {
            return size;
        }

        boolean hasBlock(int number) {
            return number >= 0 && number < size;
        }

        int kindOf(int block) {
            return kinds[block];
        }

        boolean isTwin(int block) {
            return kinds[block] == TWIN;
        }

        int aboveOf(int block) {
            return above[block];
        }

        int wasOf(int block) {
            return yearAgo[block];
        }

        int placeOf(int block) {
            return places[block];
        }

        int blockIn(int place) {
            return lying[place];
        }

        int wheelsIn(int place) {
            return wheelsIn[place];
        }

        int told(int block, int what) {
            switch (what) {
                case 0: return kinds[block];
                case 1: return above[block];
                case 2: return below[block];
                case 3: return places[block];
                default: return yearAgo[block];
            }
        }

        int add(int kind, int wearAbove, int wearBelow) {
            if (size >= PLACES) {
                return FULL;
            }
            int block = size;
            kinds[block] = kind;
            above[block] = wearAbove;
            below[block] = wearBelow;
            yearAgo[block] = NONE;
            put(block, block);
            size++;
            return block;
        }

        void takeAway(int block) {
            for (int place = places[block]; place + 1 < size; place++) {
                put(lying[place + 1], place);
            }
            for (int number = block; number + 1 < size; number++) {
                kinds[number] = kinds[number + 1];
                above[number] = above[number + 1];
                below[number] = below[number + 1];
                yearAgo[number] = yearAgo[number + 1];
                put(number, places[number + 1]);
            }
            size--;
        }

        void copyFrom(Street other) {
            System.arraycopy(other.kinds, 0, kinds, 0, PLACES);
            System.arraycopy(other.above, 0, above, 0, PLACES);
            System.arraycopy(other.below, 0, below, 0, PLACES);
            System.arraycopy(other.yearAgo, 0, yearAgo, 0, PLACES);
            System.arraycopy(other.places, 0, places, 0, PLACES);
            System.arraycopy(other.lying, 0, lying, 0, PLACES);
            System.arraycopy(other.wheelsIn, 0, wheelsIn, 0, PLACES);
            size = other.size;
        }

        private void put(int block, int place) {
            places[block] = place;
            lying[place] = block;
        }

        void exchange(int place, int other) {
            int block = lying[place];
            put(lying[other], place);
            put(block, other);
        }

        void putDown(Order order, boolean turning) {
            for (int place = 0; place < size; place++) {
                int block = order.blockIn(place);
                put(block, place);
                if (turning && kinds[block] != MARKED) {
                    turnOver(block);
                }
            }
        }

        void turnOver(int block) {
            int wear = above[block];
            above[block] = below[block];
            below[block] = wear;
        }

        int changeWheels(int place, int v) {
            int before = wheelsIn[place];
            wheelsIn[place] = v;
            return before;
        }

        int changeWas(int block, int v) {
            int before = yearAgo[block];
            yearAgo[block] = v;
            return before;
        }

        boolean lieTogether(int block, int other) {
            return Math.abs(places[block] - places[other]) == 1;
        }

        /** By how much a YEAR in a PLACE wears a BLOCK. */
        int yearlyWear(int block, int place) {
            int wheels = wheelsIn[place];
            switch (kinds[block]) {
                case OAK:
                case MARKED: return (wheels + 1) / 2;
                case SPLIT: return wheels * 2;
                default: return wheels;
            }
        }

        /** What a HEAD of a BLOCK comes to that lies above in a PLACE for a YEAR. */
        int wornHead(int wear, int block, int place) {
            return Math.min(MOST_WEAR, wear + yearlyWear(block, place));
        }

        /** What the HEAD above comes to, if a BLOCK is LAID in a PLACE and worn for a YEAR. */
        int wearIfLaid(int block, int place, boolean turning) {
            int wear = turning && kinds[block] != MARKED ? below[block] : above[block];
            return wornHead(wear, block, place);
        }

        void wearForAYear() {
            for (int block = 0; block < size; block++) {
                above[block] = wornHead(above[block], block, places[block]);
            }
        }

        /** New BLOCKS for those that are worn so far on both HEADS: how many. */
        int burnWorn(int burningWear) {
            int burnt = 0;
            for (int block = 0; block < size; block++) {
                if (above[block] >= burningWear && below[block] >= burningWear) {
                    above[block] = 0;
                    below[block] = 0;
                    burnt++;
                }
            }
            return burnt;
        }

        int worstWear() {
            int most = 0;
            for (int block = 0; block < size; block++) {
                most = Math.max(most, above[block]);
            }
            return most;
        }

        int looksNeeded() {
            int kindsSeen = 0;
            for (int block = 0; block < size; block++) {
                kindsSeen |= 1 << kinds[block];
            }
            return size - Integer.bitCount(kindsSeen);
        }

        int wheelsInUse() {
            int sum = 0;
            for (int place = 0; place < size; place++) {
                sum += wheelsIn[place];
            }
            return sum;
        }
    }

    /** What it takes to bring the BLOCKS of a STREET to an ORDER. */
    private static final class Carrying {
        static int told(Street street, Order order, int what) {
            switch (what) {
                case 0: return wayTo(street, order, 0, order.size());
                case 1: return exchangesTo(street, order);
                default: return greaterGang(street, order);
            }
        }

        /** How many PLACES those BLOCKS go that are to lie in the PLACES from one on, up to another. */
        private static int wayTo(Street street, Order order, int from, int to) {
            int way = 0;
            for (int place = from; place < to; place++) {
                way += Math.abs(street.placeOf(order.blockIn(place)) - place);
            }
            return way;
        }

        private static int greaterGang(Street street, Order order) {
            int half = order.size() / 2;
            return Math.max(wayTo(street, order, 0, half), wayTo(street, order, half, order.size()));
        }

        // a ring of k BLOCKS that go each to the next one's PLACE needs k - 1 exchanges
        private static int exchangesTo(Street street, Order order) {
            int rings = 0;
            int seen = 0;
            for (int start = 0; start < order.size(); start++) {
                if ((seen >> start & 1) == 0) {
                    rings++;
                    seen = ringFrom(street, order, start, seen);
                }
            }
            return order.size() - rings;
        }

        private static int ringFrom(Street street, Order order, int start, int seenBefore) {
            int seen = seenBefore;
            int place = start;
            for (int step = 0; step < order.size(); step++) {
                seen |= 1 << place;
                place = street.placeOf(order.blockIn(place));
            }
            return seen;
        }
    }

    /** A FLOOD in which the BLOCKS swim by DRAWS. */
    private static final class Flood {
        /** The SEED behind the FLOOD. */
        static int swim(Street street, int seed) {
            int drawn = seed;
            for (int place = street.size() - 1; place >= 1; place--) {
                drawn = nextSeed(drawn);
                street.exchange(place, rest(drawn, place + 1));
                drawn = nextSeed(drawn);
                if (rest(drawn, 2) == 1) {
                    street.turnOver(street.blockIn(place));
                }
            }
            return drawn;
        }

        private static int nextSeed(int seed) {
            return (int) (1103515245L * seed + 12345L & 0x7fffffffL);
        }

        private static int rest(int seed, int of) {
            return of > 0 ? seed / 65536 % of : 0;
        }
    }

    /**
     * All LAWFUL ORDERS of a STREET. What can still come depends only on which BLOCKS are laid, which one
     * lies at the end and whether that one is a TWIN without another: so these states are looked at, from
     * the last PLACE to the first, in place of some thousand ORDERS one by one. Sets of BLOCKS are bits.
     */
    private static final class Layings {
        private static final int NO_BLOCK = 7;
        private static final int STATES = 128 * 8 * 2;
        private static final int START = NO_BLOCK * 2;
        private static final int NEVER = MOST_WEAR + 1;

        private final int[] ways = new int[STATES];
        private final int[] least = new int[STATES];
        private final int[] wearIn = new int[PLACES * PLACES];
        private final int[] mayBeside = new int[PLACES + 1];
        private final Order found = new Order();
        private int size;
        private int needy;

        void study(Street street, Law rule) {
            size = street.size();
            noteWear(street, rule);
            noteNeighbours(street, rule);
            int all = (1 << size) - 1;
            for (int laid = all; laid >= 1; laid--) {
                for (int end = 0; end < size; end++) {
                    if (isIn(laid, end)) {
                        settle(laid, end, 0, laid == all);
                    }
                    if (isIn(laid & needy, end)) {
                        settle(laid, end, 1, false);
                    }
                }
            }
            settle(0, NO_BLOCK, 0, false);
        }

        int ordersFound() {
            return ways[START];
        }

        /** WORST behind a YEAR by the BEST ORDER. */
        int leastWorst() {
            return least[START];
        }

        /** The first of the ORDERS that keep to the least WORST; some ORDER must be LAWFUL. */
        Order bestOrder() {
            found.clear();
            int laid = 0;
            int end = NO_BLOCK;
            int alone = 0;
            for (int place = 0; place < size; place++) {
                int next = firstToward(leastWorst(), laid, end, alone);
                alone = aloneThen(end, next);
                laid |= 1 << next;
                end = next;
                found.append(next);
            }
            return found;
        }

        private int firstToward(int goal, int laid, int end, int alone) {
            int place = Integer.bitCount(laid);
            int open = openTo(laid, end, alone);
            for (int next = 0; next < size; next++) {
                if (isIn(open, next) && wearIn[next * PLACES + place] <= goal
                        && least[stateThen(laid, end, next)] <= goal) {
                    return next;
                }
            }
            return 0;
        }

        private void noteWear(Street street, Law rule) {
            for (int block = 0; block < size; block++) {
                for (int place = 0; place < size; place++) {
                    wearIn[block * PLACES + place] = street.wearIfLaid(block, place, rule.turns());
                }
            }
        }

        private void noteNeighbours(Street street, Law rule) {
            needy = 0;
            for (int block = 0; block < size; block++) {
                if (rule.wantsTwinsTogether() && street.isTwin(block)) {
                    needy |= 1 << block;
                }
                mayBeside[block] = 0;
                for (int other = 0; other < size; other++) {
                    if (rule.letsLieTogether(street, block, other)) {
                        mayBeside[block] |= 1 << other;
                    }
                }
            }
            mayBeside[NO_BLOCK] = (1 << size) - 1;
        }

        private void settle(int laid, int end, int alone, boolean mayEnd) {
            int sum = mayEnd ? 1 : 0;
            int lowest = mayEnd ? 0 : NEVER;
            int place = Integer.bitCount(laid);
            int open = openTo(laid, end, alone);
            for (int next = 0; next < size; next++) {
                if (isIn(open, next)) {
                    int then = stateThen(laid, end, next);
                    sum += ways[then];
                    lowest = Math.min(lowest, Math.max(wearIn[next * PLACES + place], least[then]));
                }
            }
            ways[stateOf(laid, end, alone)] = sum;
            least[stateOf(laid, end, alone)] = lowest;
        }

        /** The BLOCKS that may come next. */
        private int openTo(int laid, int end, int alone) {
            int open = mayBeside[end] & ~laid;
            return alone == 1 ? open & needy : open;
        }

        private int stateThen(int laid, int end, int next) {
            return stateOf(laid | 1 << next, next, aloneThen(end, next));
        }

        private int aloneThen(int end, int next) {
            return isIn(needy, next) && !isIn(needy, end) ? 1 : 0;
        }

        private static boolean isIn(int blocks, int block) {
            return (blocks >> block & 1) == 1;
        }

        private static int stateOf(int laid, int end, int alone) {
            return (laid * 8 + end) * 2 + alone;
        }
    }

    /** LAST: the ORDERS of a YEAR ago that give the wear of today. */
    private static final class LastYear {
        private static final int SETS = 128;

        private final int[] ways = new int[SETS];
        private final int[] placesFor = new int[PLACES];
        private final Order found = new Order();
        private int size;

        void study(Street street) {
            size = street.size();
            for (int block = 0; block < size; block++) {
                placesFor[block] = placesFitting(street, block);
            }
            countWays();
        }

        int ordersFound() {
            return ways[0];
        }

        /** The first one; there must be one. */
        Order firstOrder() {
            found.clear();
            int laid = 0;
            for (int place = 0; place < size; place++) {
                int next = firstFor(laid, place);
                laid |= 1 << next;
                found.append(next);
            }
            return found;
        }

        /** The PLACE in which a BLOCK lies in all ORDERS; NONE. What was studied is used up. */
        int surePlaceOf(int block) {
            if (ordersFound() == 0) {
                return NONE;
            }
            int place = placeIn(firstOrder(), block);
            placesFor[block] &= ~(1 << place);
            countWays();
            return ordersFound() == 0 ? place : NONE;
        }

        private static int placeIn(Order order, int block) {
            int place = 0;
            while (place + 1 < order.size() && order.blockIn(place) != block) {
                place++;
            }
            return place;
        }

        private static int placesFitting(Street street, int block) {
            int places = 0;
            for (int place = 0; place < street.size(); place++) {
                if (fits(street, block, place)) {
                    places |= 1 << place;
                }
            }
            return places;
        }

        private static boolean fits(Street street, int block, int place) {
            int before = street.wasOf(block);
            return before == NONE || street.wornHead(before, block, place) == street.aboveOf(block);
        }

        /** For each set of BLOCKS that lie in the first PLACES: in how many ways the others fit behind them. */
        private void countWays() {
            int all = (1 << size) - 1;
            ways[all] = 1;
            for (int laid = all - 1; laid >= 0; laid--) {
                int place = Integer.bitCount(laid);
                int sum = 0;
                for (int next = 0; next < size; next++) {
                    if (mayCome(laid, next, place)) {
                        sum += ways[laid | 1 << next];
                    }
                }
                ways[laid] = sum;
            }
        }

        private int firstFor(int laid, int place) {
            for (int next = 0; next < size; next++) {
                if (mayCome(laid, next, place) && ways[laid | 1 << next] > 0) {
                    return next;
                }
            }
            return 0;
        }

        private boolean mayCome(int laid, int next, int place) {
            return (laid >> next & 1) == 0 && (placesFor[next] >> place & 1) == 1;
        }
    }

    /** SPRINGS to come, on a STREET of its own, so that the real one stays as it is. */
    private static final class Forecast {
        private final Street street = new Street();
        private int bought;
        private int firstBought;

        void run(Street from, Law law, Layings layings, int springs) {
            street.copyFrom(from);
            bought = 0;
            firstBought = NONE;
            for (int spring = 1; spring <= springs; spring++) {
                layings.study(street, law);
                if (layings.ordersFound() > 0) {
                    street.putDown(layings.bestOrder(), law.turns());
                }
                street.wearForAYear();
                note(spring, street.burnWorn(law.burningWear()));
            }
        }

        private void note(int spring, int burnt) {
            if (burnt > 0 && firstBought == NONE) {
                firstBought = spring;
            }
            bought += burnt;
        }

        int told(int what) {
            switch (what) {
                case 0: return bought;
                case 1: return firstBought;
                default: return street.worstWear();
            }
        }
    }
}
