/** An inn that serves its guests in the morning what they dreamt at night. */
public final class ServesWhatOneDreamt {
    private static final int NO_SUCH = -1;
    private static final int NO_ROOM = -2;
    private static final int NOT_AS_MUST = -3;
    private static final int NONE = -4;
    private static final int NOTHING_HELD = -11;
    private static final int OTHER_KIND = -12;
    private static final int NO_PLACE = -13;
    private static final int SIZE_BELOW = -14;
    private static final int NO_FAILURE = -15;
    private static final int FINE = 0;

    private static final int MOST_GUESTS = 7;
    private static final int MOST_PLATES = 10;
    private static final int MOST_STOCK = 99;
    private static final int MOST_HEALTH = 99;
    private static final int MOST_TALLY = 9999;
    private static final int LAST_NIGHT = 999;
    private static final int MOST_NIGHTS = 60;
    private static final int MOST_SHELVES = 8;
    private static final int MOST_CELLS = 100;
    private static final int DIGITS = 10;

    private final Inn now;
    /** Every look ahead is played in this one inn: a new one a call would fill the room. */
    private final Inn mind;
    private final Inn kept;
    private boolean hasImage;
    private final Shelf[] shelves;
    private final Seating seating;
    private final int[] pays;

    public ServesWhatOneDreamt() {
        now = new Inn();
        mind = new Inn();
        kept = new Inn();
        hasImage = false;
        shelves = new Shelf[MOST_SHELVES];
        for (int d = 0; d < MOST_SHELVES; d++) {
            shelves[d] = new Shelf();
        }
        seating = new Seating();
        pays = new int[8];
    }

    // ---- the inn as told

    public int inn(int d) {
        int refusal = rowRefusal(d);
        if (refusal != FINE) {
            return refusal;
        }
        Shelf shelf = shelves[d];
        if (shelf.sort != Shelf.BYTES) {
            return OTHER_KIND;
        }
        int place = Text.placeOfBadByte(shelf);
        if (place >= 0) {
            return -1000 - place;
        }
        // Told to the inn in mind first, so that a FAULT far behind leaves nothing changed.
        Inn told = inMind();
        int statements = 0;
        for (int at = 0; at < shelf.size; at++) {
            if (Text.isLetter(shelf.cells[at])) {
                if (!Text.tell(shelf, at, told)) {
                    return -2000 - at;
                }
                statements++;
            }
        }
        now.become(told);
        return statements;
    }

    public int guest(int g, int what) {
        if (!now.knows(g)) {
            return NO_SUCH;
        }
        switch (what) {
            case 0: return now.kinds[g];
            case 1: return now.figures[g];
            case 2: return now.wishes[g];
            case 3: return now.lasts[g];
            case 4: return now.healths[g];
            case 5: return now.isThere(g) ? 1 : 0;
            case 6: return Kind.eats(now.kinds[g]);
            case 7: return 10 + Kind.gain(now.kinds[g], now.figures[g], now.wishes[g], now.lasts[g]);
            default: return NO_SUCH;
        }
    }

    public int larder(int k) {
        return isPlate(k) ? now.plates[k] : NO_SUCH;
    }

    public int comes(int d, int wish) {
        if (!isPlate(wish)) {
            return NO_SUCH;
        }
        int refusal = kindRefusal(d);
        if (refusal != FINE) {
            return refusal;
        }
        return now.admit(shelves[d].kind, shelves[d].figure, wish);
    }

    public int wishes(int g, int k) {
        if (!now.knows(g) || !isPlate(k)) {
            return NO_SUCH;
        }
        int old = now.wishes[g];
        now.wishes[g] = k;
        return old;
    }

    public int heals(int g, int v) {
        if (!now.knows(g) || !within(v, 1, MOST_HEALTH)) {
            return NO_SUCH;
        }
        if (!now.isThere(g)) {
            return NOT_AS_MUST;
        }
        int old = now.healths[g];
        now.healths[g] = v;
        return old;
    }

    public int fills(int k, int v) {
        if (!isPlate(k) || !within(v, 0, MOST_STOCK)) {
            return NO_SUCH;
        }
        int old = now.plates[k];
        now.plates[k] = v;
        return old;
    }

    public int nights(int n) {
        if (!within(n, 1, MOST_NIGHTS)) {
            return NO_SUCH;
        }
        if (now.night + n > LAST_NIGHT) {
            return NOT_AS_MUST;
        }
        now.pass(n);
        return Integer.bitCount(now.there);
    }

    // ---- nights on

    public int guestThen(int g, int n, int what) {
        if (!now.knows(g) || !isWhile(n) || !within(what, 0, 1)) {
            return NO_SUCH;
        }
        Inn later = inMind();
        later.pass(n);
        return what == 0 ? later.healths[g] : later.lasts[g];
    }

    public int larderThen(int k, int n) {
        if (!isPlate(k) || !isWhile(n)) {
            return NO_SUCH;
        }
        Inn later = inMind();
        later.pass(n);
        return later.plates[k];
    }

    public int then(int n, int what) {
        if (!isWhile(n) || !within(what, 0, 2)) {
            return NO_SUCH;
        }
        Inn later = inMind();
        later.pass(n);
        if (what == 0) {
            return later.there;
        }
        return what == 1 ? later.served : later.lacking;
    }

    public int leaves(int g) {
        if (g == -1) {
            return firstToLeave();
        }
        if (!now.knows(g)) {
            return NO_SUCH;
        }
        Inn later = inMind();
        for (int n = 0; n <= MOST_NIGHTS; n++) {
            if (!later.isThere(g)) {
                return n;
            }
            later.pass(1);
        }
        return NONE;
    }

    private int firstToLeave() {
        Inn later = inMind();
        for (int n = 0; n < MOST_NIGHTS; n++) {
            later.pass(1);
            int left = now.there & ~later.there;
            if (left != 0) {
                return leastOf(left);
            }
        }
        return NONE;
    }

    public int out(int k) {
        if (!isPlate(k)) {
            return NO_SUCH;
        }
        Inn later = inMind();
        for (int n = 0; n <= MOST_NIGHTS; n++) {
            if (later.plates[k] == 0) {
                return n;
            }
            later.pass(1);
        }
        return NONE;
    }

    public int table(int g, int what) {
        if (!now.knows(g) || !within(what, 0, 1)) {
            return NO_SUCH;
        }
        if (what == 0) {
            return now.nextDream(g);
        }
        Inn later = inMind();
        later.pass(1);
        return (later.servedNow >> g) & 1;
    }

    // ---- what is best

    public int bestWish(int g, int n, int what) {
        if (!now.knows(g) || !isWhile(n) || !within(what, 0, 1)) {
            return NO_SUCH;
        }
        int best = 0;
        int most = -1;
        for (int k = 0; k < MOST_PLATES; k++) {
            Inn later = inMind();
            later.wishes[g] = k;
            later.pass(n);
            if (later.healths[g] > most) {
                most = later.healths[g];
                best = k;
            }
        }
        return what == 0 ? best : most;
    }

    public int buy(int n) {
        if (!isWhile(n)) {
            return NO_SUCH;
        }
        Inn later = inMind();
        later.pass(n);
        int least = later.lacking;
        int best = NONE;
        for (int k = 0; k < MOST_PLATES; k++) {
            later = inMind();
            later.stock(k, 5);
            later.pass(n);
            if (later.lacking < least) {
                least = later.lacking;
                best = k;
            }
        }
        return best;
    }

    public int least(int k, int n) {
        if (!isPlate(k) || !within(n, 1, 20)) {
            return NO_SUCH;
        }
        // While nobody lacks, all eat the same whatever the stock, and more of it stays more:
        // what does, does with any more too, so the least may be found by halves.
        int low = 0;
        int high = MOST_STOCK + 1;
        for (int step = 0; step <= MOST_STOCK && low < high; step++) {
            int v = (low + high) / 2;
            if (suffices(k, v, n)) {
                high = v;
            } else {
                low = v + 1;
            }
        }
        return low > MOST_STOCK ? NONE : low;
    }

    private boolean suffices(int k, int v, int n) {
        Inn later = inMind();
        later.plates[k] = v;
        return later.passUnlacking(n);
    }

    public int send(int n) {
        if (!isWhile(n)) {
            return NO_SUCH;
        }
        int most = -1;
        int best = NONE;
        for (int g = 0; g < now.guests; g++) {
            if (now.isThere(g)) {
                int others = now.there & ~(1 << g);
                int alone = healthThen(others, others, n);
                // "As it is" is the same others' too: his own HEALTH is never set against theirs.
                if (alone > most && alone > healthThen(others, now.there, n)) {
                    most = alone;
                    best = g;
                }
            }
        }
        return best;
    }

    /** HEALTH of some (bits), together, behind n NIGHTS, if just those staying (bits) are THERE now. */
    private int healthThen(int whom, int staying, int n) {
        Inn later = inMind();
        later.there = staying;
        later.pass(n);
        return later.healthOf(whom & later.there);
    }

    public int seats(int i) {
        if (i < 0) {
            return NO_SUCH;
        }
        return seating.seat(now, i);
    }

    public int same(int what) {
        switch (what) {
            case 0: return now.twosOfOneDream();
            case 1: return now.wellest();
            case 2: return now.fullest();
            case 3: return now.platesInAll();
            case 4: return now.emptyPlates();
            case 5: return now.platesOf(now.wishes);
            case 6: return now.platesOf(now.lasts);
            default: return NO_SUCH;
        }
    }

    // ---- what kind one is, what he wished

    public int whatIs(int d, int g, int what) {
        if (!now.knows(g) || !within(what, 0, 1)) {
            return NO_SUCH;
        }
        int refusal = rowRefusal(d);
        if (refusal != FINE) {
            return refusal;
        }
        int found = 0;
        int ways = what == 0 ? Kind.KINDS : DIGITS;
        for (int way = 0; way < ways; way++) {
            Inn later = inMind();
            int[] guessed = what == 0 ? later.kinds : later.figures;
            guessed[g] = way;
            if (healthsAreSo(shelves[d], later, g)) {
                found |= 1 << way;
            }
        }
        return found;
    }

    private static boolean healthsAreSo(Shelf told, Inn later, int g) {
        for (int i = 0; i < told.size; i++) {
            if (!told.isSo(i, later.healths[g])) {
                return false;
            }
            later.pass(1);
        }
        return true;
    }

    public int whatWish(int d, int g) {
        if (!now.knows(g)) {
            return NO_SUCH;
        }
        int refusal = rowRefusal(d);
        if (refusal != FINE) {
            return refusal;
        }
        int found = 0;
        for (int k = 0; k < MOST_PLATES; k++) {
            Inn later = inMind();
            later.wishes[g] = k;
            if (lastPlatesAreSo(shelves[d], later, g)) {
                found |= 1 << k;
            }
        }
        return found;
    }

    private static boolean lastPlatesAreSo(Shelf told, Inn later, int g) {
        for (int i = 0; i < told.size; i++) {
            later.pass(1);
            if (!told.isSo(i, later.lasts[g])) {
                return false;
            }
        }
        return true;
    }

    public int two(int a, int b, int n) {
        if (!now.knows(a) || !now.knows(b) || a == b || !within(n, 1, 30)) {
            return NO_SUCH;
        }
        if (!now.isThere(a) || !now.isThere(b)) {
            return NOT_AS_MUST;
        }
        for (int pair = 0; pair < 4; pair++) {
            choose(a, b, n, pair);
        }
        for (int pair = 0; pair < 4; pair++) {
            boolean oneStays = pays[pair] >= pays[pair ^ 2];
            boolean otherStays = pays[4 + pair] >= pays[4 + (pair ^ 1)];
            if (oneStays && otherStays) {
                return 10 * (pair >> 1) + (pair & 1);
            }
        }
        return NONE;
    }

    /** A pair's bit 1 is the choice of a, its bit 0 that of b; pays holds those of a, then those of b. */
    private void choose(int a, int b, int n, int pair) {
        boolean oneTells = (pair & 2) != 0;
        boolean otherTells = (pair & 1) != 0;
        int silent = (oneTells ? 0 : 1 << a) | (otherTells ? 0 : 1 << b);
        Inn later = inMind();
        later.passNight(false, silent);
        later.pass(n - 1);
        pays[pair] = later.healths[a] - (oneTells ? 0 : 2);
        pays[4 + pair] = later.healths[b] - (otherTells ? 0 : 2);
    }

    public long mares(int g, int n, int t, int v, int part) {
        if (!now.knows(g) || !within(n, 0, 7) || !within(t, 2, 20)) {
            return refusedLong(NO_SUCH);
        }
        if (!within(v, 0, MOST_HEALTH) || !within(part, 0, 1)) {
            return refusedLong(NO_SUCH);
        }
        long likely = 0;
        long all = 0;
        for (int mares = 0; mares < 1 << n; mares++) {
            Inn later = inMind();
            long weight = 1;
            for (int night = 0; night < n; night++) {
                boolean mare = ((mares >> night) & 1) != 0;
                later.passNight(mare, 0);
                weight *= mare ? 1 : t - 1;
            }
            all += weight;
            likely += later.healths[g] >= v ? weight : 0;
        }
        return partOf(likely, all, part);
    }

    public long mean(int part) {
        if (!within(part, 0, 1)) {
            return refusedLong(NO_SUCH);
        }
        return partOf(now.healthOf(now.there), Integer.bitCount(now.there), part);
    }

    // ---- told slates, years by seeds

    public int forged(int d) {
        int refusal = rowRefusal(d);
        if (refusal != FINE) {
            return refusal;
        }
        Shelf told = shelves[d];
        for (int k = 0; k < told.size; k++) {
            if (!isPlate(k) || told.cells[k] != now.plates[k]) {
                return k;
            }
        }
        return NONE;
    }

    public int judge(int d) {
        int refusal = rowRefusal(d);
        if (refusal != FINE) {
            return refusal;
        }
        Shelf told = shelves[d];
        Inn later = inMind();
        for (int i = 0; i < told.size; i++) {
            if (!told.isSo(i, later.platesInAll())) {
                return i;
            }
            later.pass(1);
        }
        return NONE;
    }

    public int years(int n, int z, int what) {
        if (!within(n, 1, 20) || !within(what, 0, 1)) {
            return NO_SUCH;
        }
        int seed = z;
        int sum = 0;
        for (int year = 0; year < n; year++) {
            Inn later = inMind();
            seed = drawInto(later.wishes, later.guests, 10, seed);
            seed = drawInto(later.plates, MOST_PLATES, 6, seed);
            later.pass(12);
            sum += what == 0 ? later.served - now.served : Integer.bitCount(later.there);
        }
        return sum;
    }

    /** Fills the first count cells with DRAWS below the bound; answers the seed as it is then. */
    private static int drawInto(int[] cells, int count, int bound, int seed) {
        int z = seed;
        for (int i = 0; i < count && i < cells.length; i++) {
            z = z * 1103515245 + 12345;
            cells[i] = bound > 0 ? ((z & 0x7fffffff) / 65536) % bound : 0;
        }
        return z;
    }

    // ---- the image, what is told

    public int image() {
        kept.become(now);
        hasImage = true;
        return now.night;
    }

    public int restore() {
        if (!hasImage) {
            return NOT_AS_MUST;
        }
        now.become(kept);
        return now.night;
    }

    public int count(int what) {
        switch (what) {
            case 0: return now.guests;
            case 1: return now.night;
            case 2: return now.served;
            case 3: return now.lacking;
            case 4: return now.there;
            case 5: return now.platesInAll();
            default: return NO_SUCH;
        }
    }

    // ---- shelves

    public int keep(int d, int what, int k, int figure) {
        if (!isShelf(d) || !within(what, 0, 1)) {
            return NO_SUCH;
        }
        if (what == 0) {
            shelves[d].holdNothing();
            return FINE;
        }
        if (!Kind.isKind(k) || !isDigit(figure)) {
            return NO_SUCH;
        }
        shelves[d].holdKind(k, figure);
        return FINE;
    }

    public int row(int d, int sort, int n) {
        if (!isShelf(d) || !Shelf.isSort(sort) || n > MOST_CELLS) {
            return NO_SUCH;
        }
        if (n < 0) {
            return SIZE_BELOW;
        }
        shelves[d].holdRow(sort, n);
        return FINE;
    }

    public int put(int d, int i, int v) {
        int refusal = rowRefusal(d);
        if (refusal != FINE) {
            return refusal;
        }
        Shelf shelf = shelves[d];
        if (!shelf.hasCell(i)) {
            return NO_PLACE;
        }
        shelf.cells[i] = Shelf.lowestBits(shelf.sort, v);
        return FINE;
    }

    public long element(int d, int i) throws IllegalArgumentException, IllegalStateException {
        if (!isShelf(d)) {
            throw new IllegalArgumentException("no such shelf");
        }
        Shelf shelf = shelves[d];
        if (shelf.holds != Shelf.ROW) {
            throw new IllegalStateException("no row is held");
        }
        if (!shelf.hasCell(i)) {
            throw new IllegalStateException("no such place");
        }
        return shelf.cells[i];
    }

    public int copy(int d, int i, int e, int j, int n) {
        if (!isShelf(d) || !isShelf(e)) {
            return NO_SUCH;
        }
        Shelf from = shelves[d];
        Shelf to = shelves[e];
        if (from.holds == Shelf.NOTHING || to.holds == Shelf.NOTHING) {
            return NOTHING_HELD;
        }
        if (from.holds != Shelf.ROW || to.holds != Shelf.ROW || from.sort != to.sort) {
            return OTHER_KIND;
        }
        if (!from.hasCells(i, n) || !to.hasCells(j, n)) {
            return NO_PLACE;
        }
        System.arraycopy(from.cells, i, to.cells, j, n);
        return n;
    }

    public int cost(int d) {
        int refusal = kindRefusal(d);
        return refusal != FINE ? refusal : Kind.price(shelves[d].kind, shelves[d].figure);
    }

    public int toss(int d) {
        int refusal = kindRefusal(d);
        if (refusal != FINE) {
            return refusal;
        }
        int kind = shelves[d].kind;
        int figure = shelves[d].figure;
        try {
            Kind.fail(kind, figure);
        } catch (IllegalArgumentException failure) {
            return 100 + figure;
        } catch (UnsupportedOperationException failure) {
            return 200 + Kind.price(kind, figure);
        } catch (IllegalStateException failure) {
            return figure;
        }
        return NO_FAILURE;
    }

    // ---- what many calls need

    private Inn inMind() {
        mind.become(now);
        return mind;
    }

    private int rowRefusal(int d) {
        return refusalUnless(d, Shelf.ROW);
    }

    private int kindRefusal(int d) {
        return refusalUnless(d, Shelf.KIND);
    }

    private int refusalUnless(int d, int wanted) {
        if (!isShelf(d)) {
            return NO_SUCH;
        }
        if (shelves[d].holds == Shelf.NOTHING) {
            return NOTHING_HELD;
        }
        return shelves[d].holds == wanted ? FINE : OTHER_KIND;
    }

    private static boolean within(int v, int low, int high) {
        return v >= low && v <= high;
    }

    private static boolean isPlate(int k) {
        return within(k, 0, MOST_PLATES - 1);
    }

    private static boolean isWhile(int n) {
        return within(n, 0, MOST_NIGHTS);
    }

    private static boolean isShelf(int d) {
        return within(d, 0, MOST_SHELVES - 1);
    }

    private static boolean isDigit(int v) {
        return within(v, 0, DIGITS - 1);
    }

    private static int leastOf(int bits) {
        for (int i = 0; i < 32; i++) {
            if (((bits >> i) & 1) != 0) {
                return i;
            }
        }
        return NONE;
    }

    private static long refusedLong(int refusal) {
        return 1000000000L - refusal;
    }

    private static long partOf(long above, long below, int part) {
        long shared = sharedDivisor(above, below);
        if (shared <= 0 || below <= 0) {
            return part == 0 ? 0 : 1;
        }
        return part == 0 ? above / shared : below / shared;
    }

    private static long sharedDivisor(long a, long b) {
        long x = a;
        long y = b;
        // Euclid's steps on longs are fewer than 100; the bound only shows that the loop ends.
        for (int step = 0; step < 1000 && y != 0; step++) {
            long rest = x % y;
            x = y;
            y = rest;
        }
        return x;
    }

    /** What the eight KINDS of GUESTS do alike and otherwise. */
    private static final class Kind {
        static final int KINDS = 8;
        private static final int PLAIN = 1;
        private static final int BRIDE = 2;
        private static final int COOK = 3;
        private static final int MURDERER = 4;
        private static final int CHILD = 5;
        private static final int WIDOWER = 6;
        private static final int TRAVELLER = 7;

        static boolean isKind(int kind) {
            return within(kind, 0, KINDS - 1);
        }

        static int dream(int kind, int figure, int wish, int last, int night) {
            switch (kind) {
                case PLAIN: return 1;
                case BRIDE: return (wish + night) % MOST_PLATES;
                case COOK: return cooksDream(figure, wish, night);
                case MURDERER: return 0;
                case CHILD: return (last + 1 + figure) % MOST_PLATES;
                case WIDOWER: return 9;
                case TRAVELLER: return night % 2 == 0 ? last : cooksDream(figure, wish, night);
                default: return wish;
            }
        }

        private static int cooksDream(int figure, int wish, int night) {
            int every = figure + 2;
            return every > 0 && night % every == 0 ? wish : NONE;
        }

        static int eats(int kind) {
            return kind == BRIDE || kind == TRAVELLER ? 2 : 1;
        }

        static int gain(int kind, int figure, int plate, int last) {
            switch (kind) {
                case PLAIN:
                case MURDERER: return 1;
                case BRIDE: return plate / 2;
                case COOK: return 9 - plate;
                case CHILD: return plate / 2 - 3;
                case WIDOWER: return figure;
                case TRAVELLER: return Math.max(0, 8 - plate);
                default: return plate == last ? 0 : 2;
            }
        }

        static int price(int kind, int figure) {
            switch (kind) {
                case PLAIN: return 1;
                case BRIDE: return 3 + figure;
                case COOK: return 6;
                case MURDERER:
                case WIDOWER: return 0;
                case CHILD: return (3 + figure) / 2;
                case TRAVELLER: return Math.max(0, 6 - figure);
                default: return 3;
            }
        }

        /** The exception's class alone tells whose FAILURE it is: its text may not be read. */
        static void fail(int kind, int figure) {
            if (figure == 0 || kind == PLAIN || kind == MURDERER || kind == WIDOWER) {
                return;
            }
            if (kind == BRIDE || kind == CHILD) {
                throw new IllegalArgumentException("a bride's failure");
            }
            if (kind == TRAVELLER) {
                throw new UnsupportedOperationException("a traveller's failure");
            }
            throw new IllegalStateException("a guest's failure");
        }
    }

    /** All that THE IMAGE keeps, and how a NIGHT changes it. */
    private static final class Inn {
        final int[] kinds = new int[MOST_GUESTS];
        final int[] figures = new int[MOST_GUESTS];
        final int[] wishes = new int[MOST_GUESTS];
        final int[] lasts = new int[MOST_GUESTS];
        final int[] healths = new int[MOST_GUESTS];
        final int[] plates = new int[MOST_PLATES];
        int guests;
        /** Bits of those THERE. */
        int there;
        int night;
        int served;
        int lacking;
        /** Bits of those who were SERVED, and who LACKED, in the NIGHT passed last. */
        int servedNow;
        int lackedNow;

        Inn() {
            for (int k = 0; k < MOST_PLATES; k++) {
                plates[k] = 5;
            }
        }

        void become(Inn other) {
            System.arraycopy(other.kinds, 0, kinds, 0, MOST_GUESTS);
            System.arraycopy(other.figures, 0, figures, 0, MOST_GUESTS);
            System.arraycopy(other.wishes, 0, wishes, 0, MOST_GUESTS);
            System.arraycopy(other.lasts, 0, lasts, 0, MOST_GUESTS);
            System.arraycopy(other.healths, 0, healths, 0, MOST_GUESTS);
            System.arraycopy(other.plates, 0, plates, 0, MOST_PLATES);
            guests = other.guests;
            there = other.there;
            night = other.night;
            served = other.served;
            lacking = other.lacking;
            servedNow = other.servedNow;
            lackedNow = other.lackedNow;
        }

        boolean knows(int g) {
            return within(g, 0, guests - 1);
        }

        boolean isThere(int g) {
            return ((there >> g) & 1) != 0;
        }

        /** The new one's number, or NO_ROOM. */
        int admit(int kind, int figure, int wish) {
            if (guests >= MOST_GUESTS) {
                return NO_ROOM;
            }
            int g = guests;
            kinds[g] = kind;
            figures[g] = figure;
            wishes[g] = wish;
            lasts[g] = 0;
            healths[g] = 50;
            there |= 1 << g;
            guests++;
            return g;
        }

        void stock(int k, int more) {
            plates[k] = Math.min(MOST_STOCK, plates[k] + more);
        }

        void pass(int n) {
            for (int i = 0; i < n; i++) {
                passNight(false, 0);
            }
        }

        boolean passUnlacking(int n) {
            for (int i = 0; i < n; i++) {
                passNight(false, 0);
                if (lackedNow != 0) {
                    return false;
                }
            }
            return true;
        }

        /** With a mare all who dream DREAM of 7; the silent (bits) say PLATE 1 whatever they DREAM. */
        void passNight(boolean mare, int silent) {
            night++;
            stock(night % MOST_PLATES, 2);
            servedNow = 0;
            lackedNow = 0;
            for (int g = 0; g < guests; g++) {
                if (isThere(g)) {
                    int plate = dream(g, night);
                    if (mare && plate != NONE) {
                        plate = 7;
                    }
                    breakfast(g, ((silent >> g) & 1) != 0 ? 1 : plate);
                }
            }
        }

        private int dream(int g, int when) {
            return Kind.dream(kinds[g], figures[g], wishes[g], lasts[g], when);
        }

        int nextDream(int g) {
            return isThere(g) ? dream(g, night + 1) : NONE;
        }

        private void breakfast(int g, int plate) {
            int wanted = Kind.eats(kinds[g]);
            if (plate == NONE) {
                changeHealth(g, -5);
            } else if (plates[plate] >= wanted) {
                plates[plate] -= wanted;
                changeHealth(g, Kind.gain(kinds[g], figures[g], plate, lasts[g]));
                lasts[g] = plate;
                served = Math.min(MOST_TALLY, served + 1);
                servedNow |= 1 << g;
            } else {
                changeHealth(g, -3);
                lacking = Math.min(MOST_TALLY, lacking + 1);
                lackedNow |= 1 << g;
            }
        }

        private void changeHealth(int g, int by) {
            healths[g] = Math.max(0, Math.min(MOST_HEALTH, healths[g] + by));
            if (healths[g] == 0) {
                there &= ~(1 << g);
            }
        }

        int healthOf(int whom) {
            int sum = 0;
            for (int g = 0; g < guests; g++) {
                sum += ((whom >> g) & 1) != 0 ? healths[g] : 0;
            }
            return sum;
        }

        int twosOfOneDream() {
            int twos = 0;
            for (int g = 0; g < guests; g++) {
                for (int other = 0; other < g; other++) {
                    int dreamt = nextDream(g);
                    twos += dreamt != NONE && dreamt == nextDream(other) ? 1 : 0;
                }
            }
            return twos;
        }

        int wellest() {
            int best = NONE;
            int most = -1;
            for (int g = 0; g < guests; g++) {
                if (isThere(g) && healths[g] > most) {
                    most = healths[g];
                    best = g;
                }
            }
            return best;
        }

        int fullest() {
            int best = 0;
            for (int k = 1; k < MOST_PLATES; k++) {
                if (plates[k] > plates[best]) {
                    best = k;
                }
            }
            return best;
        }

        int platesInAll() {
            int sum = 0;
            for (int k = 0; k < MOST_PLATES; k++) {
                sum += plates[k];
            }
            return sum;
        }

        int emptyPlates() {
            int bits = 0;
            for (int k = 0; k < MOST_PLATES; k++) {
                bits |= plates[k] == 0 ? 1 << k : 0;
            }
            return bits;
        }

        /** The PLATES (bits) that those THERE have in one of the rows of this inn. */
        int platesOf(int[] ofGuests) {
            int bits = 0;
            for (int g = 0; g < guests && g < ofGuests.length; g++) {
                bits |= isThere(g) ? 1 << ofGuests[g] : 0;
            }
            return bits;
        }
    }

    /** Finds the first row of those THERE in which none sits next to one of the same dream. */
    private static final class Seating {
        private final int[] dreams = new int[MOST_GUESTS];
        private final int[] order = new int[MOST_GUESTS];

        int seat(Inn inn, int i) {
            if (i >= Integer.bitCount(inn.there)) {
                return NONE;
            }
            for (int g = 0; g < inn.guests; g++) {
                dreams[g] = inn.nextDream(g);
            }
            return seatRest(0, inn.there) ? order[i] : NONE;
        }

        private boolean seatRest(int at, int standing) {
            if (standing == 0 || at >= MOST_GUESTS) {
                return standing == 0;
            }
            for (int g = 0; g < MOST_GUESTS; g++) {
                if (((standing >> g) & 1) != 0 && fits(at, g)) {
                    order[at] = g;
                    if (seatRest(at + 1, standing & ~(1 << g))) {
                        return true;
                    }
                }
            }
            return false;
        }

        private boolean fits(int at, int g) {
            return at == 0 || dreams[g] == NONE || dreams[g] != dreams[order[at - 1]];
        }
    }

    /** A place that holds nothing, a KIND with a FIGURE, or a ROW whose cells are used again. */
    private static final class Shelf {
        static final int NOTHING = 0;
        static final int KIND = 1;
        static final int ROW = 2;
        static final int BYTES = 0;
        private static final int SHORTS = 1;
        private static final int INTS = 2;

        int holds = NOTHING;
        int kind;
        int figure;
        int sort;
        int size;
        final int[] cells = new int[MOST_CELLS];

        static boolean isSort(int sort) {
            return within(sort, BYTES, INTS);
        }

        static int lowestBits(int sort, int v) {
            if (sort == BYTES) {
                return (byte) v;
            }
            return sort == SHORTS ? (short) v : v;
        }

        void holdNothing() {
            holds = NOTHING;
        }

        void holdKind(int newKind, int newFigure) {
            holds = KIND;
            kind = newKind;
            figure = newFigure;
        }

        void holdRow(int newSort, int newSize) {
            holds = ROW;
            sort = newSort;
            size = newSize;
            for (int i = 0; i < newSize && i < MOST_CELLS; i++) {
                cells[i] = 0;
            }
        }

        boolean hasCell(int i) {
            return within(i, 0, size - 1);
        }

        boolean hasCells(int from, int n) {
            // Written with a difference: a sum of two large numbers would wrap around.
            return from >= 0 && n >= 0 && from <= size && n <= size - from;
        }

        /** Whether cell i tells v; the least number of the SORT tells nothing, and is so. */
        boolean isSo(int i, int v) {
            return cells[i] == v || cells[i] == leastNumber();
        }

        private int leastNumber() {
            if (sort == BYTES) {
                return -128;
            }
            return sort == SHORTS ? -32768 : -2147483648;
        }
    }

    /** Reads THE TEXT of an INN out of a ROW of bytes. */
    private static final class Text {
        private static final int LETTER_WANTED = -1;
        private static final int NO_LETTER = 0;

        private static int digitsBehind(int letter) {
            switch (letter) {
                case 'g':
                case 'l':
                case 'h': return 3;
                case 'w':
                case 'e':
                case 'b':
                case 'd': return 2;
                default: return NO_LETTER;
            }
        }

        /** The place of the first byte with which no text can go on, the size if something lacks, or -1. */
        static int placeOfBadByte(Shelf text) {
            int digitsLeft = LETTER_WANTED;
            for (int i = 0; i < text.size; i++) {
                int sign = text.cells[i];
                if (digitsLeft == LETTER_WANTED) {
                    digitsLeft = digitsBehind(sign);
                    if (digitsLeft == NO_LETTER) {
                        return i;
                    }
                } else if (digitsLeft > 0) {
                    if (!isDigit(sign - '0')) {
                        return i;
                    }
                    digitsLeft--;
                } else {
                    if (sign != ';') {
                        return i;
                    }
                    digitsLeft = LETTER_WANTED;
                }
            }
            boolean whole = text.size > 0 && digitsLeft == LETTER_WANTED;
            return whole ? -1 : text.size;
        }

        static boolean isLetter(int sign) {
            return digitsBehind(sign) != NO_LETTER;
        }

        private static int digitAt(Shelf text, int i) {
            return text.hasCell(i) ? text.cells[i] - '0' : 0;
        }

        /** Whether the STATEMENT at its letter's place is as it must be; if so, it has come. */
        static boolean tell(Shelf text, int at, Inn inn) {
            int first = digitAt(text, at + 1);
            int second = digitAt(text, at + 2);
            int third = digitAt(text, at + 3);
            switch (text.cells[at]) {
                case 'g': return Kind.isKind(first) && inn.admit(first, second, third) >= 0;
                case 'l': return setStock(inn, first, 10 * second + third);
                case 'w': return setWish(inn, first, second);
                case 'h': return setHealth(inn, first, 10 * second + third);
                case 'e': return setLast(inn, first, second);
                case 'b': return addStock(inn, first, second);
                default: return passNights(inn, 10 * first + second);
            }
        }

        private static boolean setStock(Inn inn, int k, int v) {
            inn.plates[k] = v;
            return true;
        }

        private static boolean addStock(Inn inn, int k, int more) {
            inn.stock(k, more);
            return true;
        }

        private static boolean setWish(Inn inn, int g, int k) {
            if (!inn.knows(g)) {
                return false;
            }
            inn.wishes[g] = k;
            return true;
        }

        private static boolean setLast(Inn inn, int g, int k) {
            if (!inn.knows(g)) {
                return false;
            }
            inn.lasts[g] = k;
            return true;
        }

        private static boolean setHealth(Inn inn, int g, int v) {
            if (!inn.knows(g) || !within(v, 1, MOST_HEALTH)) {
                return false;
            }
            inn.healths[g] = v;
            inn.there |= 1 << g;
            return true;
        }

        private static boolean passNights(Inn inn, int n) {
            if (!within(n, 1, MOST_NIGHTS) || inn.night + n > LAST_NIGHT) {
                return false;
            }
            inn.pass(n);
            return true;
        }
    }
}
