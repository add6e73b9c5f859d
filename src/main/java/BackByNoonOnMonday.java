/** Suits for hire, back by noon on Monday: the document's promises 1 to 42. */
public final class BackByNoonOnMonday {
    private static final int NO_SUCH = -1;
    private static final int NO_ROOM = -2;
    private static final int NOT_SO = -3;
    private static final int NO_ONE = -4;
    private static final int BARE = -11;
    private static final int OTHER_KIND = -12;
    private static final int NO_PLACE = -13;
    private static final int BELOW_ZERO = -14;
    private static final int NO_FAILURE = -15;
    private static final long LONG_REFUSALS = 1000000000L;

    private static final int MOST_SUITS = 7;
    private static final int MOST_BOOKINGS = 7;
    // The matching takes one suit more than the shop: the one that is only thought of.
    private static final int EXTRA = MOST_SUITS;
    private static final int NONE = 9;
    private static final int KINDS = 8;
    private static final int SUIT = 0;
    private static final int BLACK = 1;
    private static final int WIDE = 2;
    private static final int MIXED = 3;
    private static final int SILK = 4;
    private static final int STRETCH = 5;
    private static final int SHINY = 6;
    private static final int VELVET = 7;
    private static final int MOST_FIGURE = 9;
    private static final int MOST_SIZE = 20;
    private static final int MOST_GROUP = 3;
    private static final int MOST_WORN = 99;
    private static final int MOST_PENCE = 9999;
    private static final int MOST_HOUR = 999;
    private static final int MOST_FEE = 20;
    private static final int MOST_WEEKS = 20;
    private static final int MOST_PAIRS = 7;
    private static final int MOST_SET = 127;
    private static final int MOST_TOLD_HOUR = 99;
    private static final int NOT_TOLD = -1;
    private static final int BOUGHT_FIGURE = 5;

    private static final int IN = 0;
    private static final int OUT = 1;
    private static final int DIRTY = 2;

    private static final int SHELVES = 8;
    private static final int ROW_ROOM = 100;
    private static final int NOTHING = 0;
    private static final int KIND = 1;
    private static final int ROW = 2;
    private static final int BYTES = 0;
    private static final int SHORTS = 1;
    private static final int INTS = 2;
    private static final int LEAST_BYTE = -128;
    private static final int LEAST_SHORT = -32768;
    private static final int LEAST_INT = 1 << 31;
    private static final int BUT_THE_SIGN = ~LEAST_INT;

    private static final int BAD_BYTE = -1000;
    private static final int BAD_STATEMENT = -2000;

    private Shop shop = new Shop();
    // What a text would make is made here, so that a FAULT leaves the shop as it was.
    private Shop trial = new Shop();
    private final Shop picture = new Shop();
    private boolean pictured = false;
    private final Shelf[] shelves = new Shelf[SHELVES];
    private final Shelf noShelf = new Shelf();
    private final Suit[] bought = new Suit[KINDS];
    private final Suit plainest = new Suit(SUIT, 0);
    private final Fitting fitting = new Fitting();
    private final int[] ways = new int[MOST_BOOKINGS + 1];
    private final int[] toldHours = new int[MOST_SUITS];
    private final int[] cleaningOrder = new int[MOST_SUITS];

    public BackByNoonOnMonday() {
        for (int d = 0; d < shelves.length; d++) {
            shelves[d] = new Shelf();
        }
        for (int k = 0; k < bought.length; k++) {
            bought[k] = new Suit(k, BOUGHT_FIGURE);
        }
    }

    // ---- the shop as told

    public int shop(int d) {
        if (!isShelf(d)) {
            return NO_SUCH;
        }
        Shelf text = shelfAt(d);
        if (text.holds == NOTHING) {
            return BARE;
        }
        if (text.holds != ROW || text.sort != BYTES) {
            return OTHER_KIND;
        }
        int bad = firstBadByte(text);
        return bad >= 0 ? BAD_BYTE - bad : tellShop(text);
    }

    public int suit(int s, int what) {
        if (!shop.isSuit(s)) {
            return NO_SUCH;
        }
        Suit kind = shop.kindOf(s);
        switch (what) {
            case 0: return kind.number;
            case 1: return kind.figure;
            case 2: return at(shop.suitSize, s);
            case 3: return at(shop.worn, s);
            case 4: return at(shop.state, s);
            case 5: return kind.price;
            case 6: return kind.reach;
            case 7: return kind.hours;
            case 8: return kind.lasting;
            default: return NO_SUCH;
        }
    }

    public int booking(int b, int what) {
        if (!shop.isBooking(b)) {
            return NO_SUCH;
        }
        switch (what) {
            case 0: return at(shop.size, b);
            case 1: return at(shop.group, b);
            case 2: return at(shop.grows, b);
            case 3: return at(shop.late, b);
            case 4: return at(shop.absent, b);
            case 5: return at(shop.has, b);
            default: return NO_SUCH;
        }
    }

    public int buys(int d, int size) {
        if (!isShelf(d) || !isIn(size, 0, MOST_SIZE)) {
            return NO_SUCH;
        }
        Shelf shelf = shelfAt(d);
        int refused = shelf.refusal(KIND);
        return refused != 0 ? refused : shop.addSuit(shelf.kind, size, 0);
    }

    public int books(int size, int group, int odds) {
        if (!isIn(size, 0, MOST_SIZE) || !isIn(group, 0, MOST_GROUP) || !isIn(odds, 0, 999)) {
            return NO_SUCH;
        }
        return shop.addBooking(size, group, odds);
    }

    public int hires(int s, int b) {
        return shop.hire(s, b);
    }

    public int returns(int s) {
        return shop.giveBack(s);
    }

    public int cleans(int s) {
        return shop.clean(s);
    }

    // ---- whom which

    public int fits(int s, int b) {
        if (!shop.isSuit(s) || !shop.isBooking(b)) {
            return NO_SUCH;
        }
        return shop.isRightFor(s, b) ? 1 : 0;
    }

    public int served(int i) {
        if (i < -1 || i >= shop.bookings) {
            return NO_SUCH;
        }
        fitting.load(shop);
        if (i == -1) {
            return fitting.most(fitting.open, fitting.in);
        }
        fitting.chooseFirst();
        return at(fitting.chosen, i);
    }

    public int leftOver() {
        fitting.load(shop);
        return fitting.chooseFirst();
    }

    public int earned() {
        fitting.load(shop);
        return fitting.richest(fitting.open, fitting.in);
    }

    public int alike() {
        fitting.load(shop);
        int best = 0;
        // Three digits to the base 8: the KIND of group 1, of 2, of 3.
        for (int choice = 0; choice < KINDS * KINDS * KINDS; choice++) {
            if (fitting.dress(shop, choice)) {
                int now = fitting.most(fitting.open, fitting.in);
                best = now > best ? now : best;
            }
        }
        return best;
    }

    public int oneMore() {
        fitting.load(shop);
        int now = fitting.most(fitting.open, fitting.in);
        for (int size = 0; size <= MOST_SIZE; size++) {
            fitting.lend(shop, plainest, size);
            // One suit more never serves more than one booking more, so the first is the most.
            if (fitting.most(fitting.open, fitting.in | 1 << EXTRA) > now) {
                return size;
            }
        }
        return NO_ONE;
    }

    public long grown(int part) {
        if (!isIn(part, 0, 1)) {
            return LONG_REFUSALS - NO_SUCH;
        }
        fitting.load(shop);
        int wanted = Integer.bitCount(fitting.open);
        long above = 0;
        for (int grow = 0; grow < 1 << MOST_BOOKINGS; grow++) {
            long weight = shop.growthWeight(grow, fitting.open);
            if (weight > 0) {
                fitting.grow(grow);
                above += fitting.most(fitting.open, fitting.in) == wanted ? weight : 0;
            }
        }
        return partOf(above, tenTo(wanted), part);
    }

    public long come(int k, int part) {
        if (!isIn(k, 0, MOST_BOOKINGS) || !isIn(part, 0, 1)) {
            return LONG_REFUSALS - NO_SUCH;
        }
        fillWays();
        long above = 0;
        for (int i = 0; i <= k; i++) {
            above += at(ways, i);
        }
        return partOf(above, tenTo(shop.bookings), part);
    }

    public int refuse() {
        fitting.load(shop);
        int now = fitting.richest(fitting.open, fitting.in);
        for (int b = 0; b < shop.bookings; b++) {
            if (hasBit(fitting.open, b) && fitting.richest(fitting.open & ~(1 << b), fitting.in) == now) {
                return b;
            }
        }
        return NO_ONE;
    }

    public int buy(int size, int what) {
        if (!isIn(size, 0, MOST_SIZE) || !isIn(what, 0, 1)) {
            return NO_SUCH;
        }
        fitting.load(shop);
        int now = fitting.richest(fitting.open, fitting.in);
        int best = -1;
        int bestKind = 0;
        for (int k = 0; k < bought.length; k++) {
            fitting.lend(shop, bought[k], size);
            int then = fitting.richest(fitting.open, fitting.in | 1 << EXTRA);
            if (then > best) {
                best = then;
                bestKind = k;
            }
        }
        return what == 0 ? bestKind : best - now;
    }

    public int sell() {
        fitting.load(shop);
        int best = -1;
        int bestSuit = NO_ONE;
        for (int s = 0; s < shop.suits; s++) {
            if (hasBit(fitting.in, s)) {
                int then = fitting.richest(fitting.open, fitting.in & ~(1 << s));
                if (then > best || then == best && at(shop.worn, s) > at(shop.worn, bestSuit)) {
                    best = then;
                    bestSuit = s;
                }
            }
        }
        return bestSuit;
    }

    public int shines() {
        int bits = 0;
        for (int s = 0; s < shop.suits; s++) {
            bits |= at(shop.worn, s) > shop.kindOf(s).lasting ? 1 << s : 0;
        }
        return bits;
    }

    // ---- cleaning, fees

    public int ready(int d, int what) {
        if (!isShelf(d) || !isIn(what, 0, 2)) {
            return NO_SUCH;
        }
        Shelf told = shelfAt(d);
        int refused = told.refusal(ROW);
        if (refused != 0) {
            return refused;
        }
        if (!readHours(told)) {
            return NO_PLACE;
        }
        if (what == 2) {
            return shop.hoursOf(shop.suitsThatAre(DIRTY));
        }
        int ordered = orderCleaning();
        int chosen = mostReady(ordered);
        return what == 0 ? Integer.bitCount(chosen) : firstCleaned(chosen, ordered);
    }

    public int fee(int f, int what) {
        if (!isIn(f, 0, MOST_FEE) || !isIn(what, 0, 1)) {
            return NO_SUCH;
        }
        return what == 0 ? feeTenths(f) : comersFor(f);
    }

    public int bestFee() {
        int best = 0;
        for (int f = 1; f <= MOST_FEE; f++) {
            best = feeTenths(f) > feeTenths(best) ? f : best;
        }
        return best;
    }

    public int atFive(int c, int p, int q) {
        if (!isIn(c, 0, 10) || !isIn(p, 0, 99) || !isIn(q, 0, 99)) {
            return NO_SUCH;
        }
        return q * 10 > c * p ? 1 : 0;
    }

    public int taxi(int s, int t, int h) {
        if (!shop.isSuit(s) || !isIn(t, 0, 99) || !isIn(h, 0, 999)) {
            return NO_SUCH;
        }
        if (at(shop.state, s) != OUT) {
            return NOT_SO;
        }
        return at(shop.late, shop.holderOf(s)) * h > t * 10 ? 1 : 0;
    }

    public int friday(int what) {
        if (!isIn(what, 0, 1)) {
            return NO_SUCH;
        }
        int pairs = 0;
        int first = NO_ONE;
        for (int a = 0; a < shop.bookings; a++) {
            for (int b = a + 1; b < shop.bookings; b++) {
                if (shop.couldChange(a, b)) {
                    first = pairs == 0 ? a * 10 + b : first;
                    pairs++;
                }
            }
        }
        return what == 0 ? pairs : first;
    }

    public int tight() {
        int bits = 0;
        for (int b = 0; b < shop.bookings; b++) {
            int s = at(shop.has, b);
            boolean tooSmall = s != NONE && !shop.reaches(shop.kindOf(s), at(shop.suitSize, s), at(shop.size, b) + 1);
            bits |= tooSmall ? 1 << b : 0;
        }
        return bits;
    }

    // ---- stains, told days

    public int stained(int d, int set, int what) {
        if (!isShelf(d) || !isIn(set, 0, MOST_SET) || !isIn(what, 0, 1)) {
            return NO_SUCH;
        }
        Shelf pairs = shelfAt(d);
        int refused = pairRefusal(pairs);
        if (refused != 0) {
            return refused;
        }
        if (firstForged(pairs) != NO_ONE) {
            return NO_PLACE;
        }
        int many = 0;
        int least = NO_ONE;
        for (int b = 0; b < shop.bookings; b++) {
            if ((set & ~suitsHad(pairs, b)) == 0) {
                least = many == 0 ? b : least;
                many++;
            }
        }
        return what == 0 ? many : least;
    }

    public int forged(int d) {
        if (!isShelf(d)) {
            return NO_SUCH;
        }
        Shelf pairs = shelfAt(d);
        int refused = pairRefusal(pairs);
        return refused != 0 ? refused : firstForged(pairs);
    }

    public int judge(int d) {
        if (!isShelf(d)) {
            return NO_SUCH;
        }
        Shelf told = shelfAt(d);
        int refused = told.refusal(ROW);
        if (refused != 0) {
            return refused;
        }
        int in = Integer.bitCount(shop.suitsThatAre(IN));
        int dirty = Integer.bitCount(shop.suitsThatAre(DIRTY));
        for (int i = 0; i < told.length; i++) {
            int v = at(told.cells, i);
            if (v != told.least() && (i > dirty || v != in + i)) {
                return i;
            }
        }
        return NO_ONE;
    }

    public int weeks(int n, int z, int what) {
        if (!isIn(n, 1, MOST_WEEKS) || !isIn(what, 0, 1)) {
            return NO_SUCH;
        }
        int seed = z;
        int more = 0;
        int without = 0;
        for (int week = 0; week < n; week++) {
            int free = shop.suitsThatAre(IN);
            int pence = shop.pence;
            for (int b = 0; b < shop.bookings; b++) {
                seed = nextSeed(seed);
                if (drawBelow(10, seed) < at(shop.absent, b) || at(shop.has, b) != NONE) {
                    continue;
                }
                int s = shop.leastFor(b, free, pence);
                if (s == NONE) {
                    without++;
                } else {
                    pence += shop.kindOf(s).price;
                    free &= ~(1 << s);
                }
            }
            more += pence - shop.pence;
        }
        return what == 0 ? more : without;
    }

    // ---- the image, what is told

    public int image() {
        picture.become(shop);
        pictured = true;
        return shop.hour;
    }

    public int restore() {
        if (!pictured) {
            return NOT_SO;
        }
        shop.become(picture);
        return shop.hour;
    }

    public int count(int what) {
        switch (what) {
            case 0: return shop.suits;
            case 1: return shop.bookings;
            case 2: return shop.pence;
            case 3: return shop.hour;
            case 4: return shop.suitsThatAre(IN);
            case 5: return shop.suitsThatAre(OUT);
            case 6: return shop.suitsThatAre(DIRTY);
            case 7: return shop.allWorn();
            default: return NO_SUCH;
        }
    }

    // ---- shelves

    public int keep(int d, int what, int k, int figure) {
        if (!isShelf(d) || !isIn(what, 0, 1)) {
            return NO_SUCH;
        }
        if (what == 0) {
            shelfAt(d).clear();
            return 0;
        }
        if (!isIn(k, 0, KINDS - 1) || !isIn(figure, 0, MOST_FIGURE)) {
            return NO_SUCH;
        }
        shelfAt(d).hang(new Suit(k, figure));
        return 0;
    }

    public int row(int d, int sort, int n) {
        if (!isShelf(d) || !isIn(sort, BYTES, INTS) || n > ROW_ROOM) {
            return NO_SUCH;
        }
        if (n < 0) {
            return BELOW_ZERO;
        }
        shelfAt(d).lay(sort, n);
        return 0;
    }

    public int put(int d, int i, int v) {
        if (!isShelf(d)) {
            return NO_SUCH;
        }
        Shelf shelf = shelfAt(d);
        int refused = shelf.refusal(ROW);
        if (refused != 0) {
            return refused;
        }
        if (!isIn(i, 0, shelf.length - 1)) {
            return NO_PLACE;
        }
        set(shelf.cells, i, shelf.narrowed(v));
        return 0;
    }

    public long element(int d, int i) throws IllegalArgumentException, IllegalStateException {
        if (!isShelf(d)) {
            throw new IllegalArgumentException("no such shelf");
        }
        Shelf shelf = shelfAt(d);
        if (shelf.holds != ROW) {
            throw new IllegalStateException("no row");
        }
        if (!isIn(i, 0, shelf.length - 1)) {
            throw new IllegalStateException("no such place");
        }
        return at(shelf.cells, i);
    }

    public int copy(int d, int i, int e, int j, int n) {
        if (!isShelf(d) || !isShelf(e)) {
            return NO_SUCH;
        }
        Shelf from = shelfAt(d);
        Shelf to = shelfAt(e);
        if (from.holds == NOTHING || to.holds == NOTHING) {
            return BARE;
        }
        if (from.holds != ROW || to.holds != ROW || from.sort != to.sort) {
            return OTHER_KIND;
        }
        if (!from.hasStretch(i, n) || !to.hasStretch(j, n)) {
            return NO_PLACE;
        }
        System.arraycopy(from.cells, i, to.cells, j, n);
        return n;
    }

    public int cost(int d) {
        if (!isShelf(d)) {
            return NO_SUCH;
        }
        Shelf shelf = shelfAt(d);
        int refused = shelf.refusal(KIND);
        return refused != 0 ? refused : shelf.kind.worth;
    }

    public int toss(int d) {
        if (!isShelf(d)) {
            return NO_SUCH;
        }
        Shelf shelf = shelfAt(d);
        int refused = shelf.refusal(KIND);
        return refused != 0 ? refused : caught(shelf.kind);
    }

    // ---- the text of a shop

    /** The place of the first byte with which no text goes on; -1 if all of it is well formed. */
    private static int firstBadByte(Shelf text) {
        int place = 0;
        // Every turn passes a statement, of two bytes at least; an empty text is told by the first turn.
        for (int turn = 0; turn <= ROW_ROOM; turn++) {
            int digits = digitsBehind(text.byteAt(place));
            if (digits < 0) {
                return place;
            }
            for (int i = 1; i <= digits; i++) {
                if (!isIn(text.byteAt(place + i), '0', '9')) {
                    return place + i;
                }
            }
            place += digits + 1;
            if (text.byteAt(place) != ';') {
                return place;
            }
            place++;
            if (place >= text.length) {
                return -1;
            }
        }
        return place;
    }

    private static int digitsBehind(int letter) {
        switch (letter) {
            case 's':
            case 'b': return 6;
            case 'h': return 2;
            case 'r':
            case 'c': return 1;
            default: return -1;
        }
    }

    /** How many statements there are, and all of them done; or the FAULT of the second kind. */
    private int tellShop(Shelf text) {
        trial.become(shop);
        int place = 0;
        int statements = 0;
        for (int turn = 0; turn < ROW_ROOM && place < text.length; turn++) {
            if (tellStatement(trial, text, place) < 0) {
                return BAD_STATEMENT - place;
            }
            statements++;
            place += digitsBehind(text.byteAt(place)) + 2;
        }
        Shop before = shop;
        shop = trial;
        trial = before;
        return statements;
    }

    /** What the statement does to the shop: its answer, below 0 if it can not be done. */
    private static int tellStatement(Shop to, Shelf text, int place) {
        int first = text.number(place + 1, 1);
        switch (text.byteAt(place)) {
            case 's': return tellSuit(to, text, place);
            case 'b': return tellBooking(to, text, place);
            case 'h': return to.hire(first, text.number(place + 2, 1));
            case 'r': return to.giveBack(first);
            case 'c': return to.clean(first);
            default: return NO_SUCH;
        }
    }

    private static int tellSuit(Shop to, Shelf text, int place) {
        int k = text.number(place + 1, 1);
        int size = text.number(place + 3, 2);
        if (k >= KINDS || size > MOST_SIZE) {
            return NO_SUCH;
        }
        return to.addSuit(new Suit(k, text.number(place + 2, 1)), size, text.number(place + 5, 2));
    }

    private static int tellBooking(Shop to, Shelf text, int place) {
        int size = text.number(place + 1, 2);
        int group = text.number(place + 3, 1);
        if (size > MOST_SIZE || group > MOST_GROUP) {
            return NO_SUCH;
        }
        return to.addBooking(size, group, text.number(place + 4, 3));
    }

    // ---- odds

    /** ways[i]: of ten to the number of bookings, how many let i of them come. */
    private void fillWays() {
        for (int i = 0; i < ways.length; i++) {
            ways[i] = i == 0 ? 1 : 0;
        }
        for (int b = 0; b < shop.bookings; b++) {
            int absent = at(shop.absent, b);
            for (int i = MOST_BOOKINGS; i >= 0; i--) {
                set(ways, i, at(ways, i) * absent + at(ways, i - 1) * (10 - absent));
            }
        }
    }

    private static long partOf(long above, long below, int part) {
        long divisor = commonDivisor(above, below);
        long whole = part == 0 ? above : below;
        return divisor > 0 ? whole / divisor : whole;
    }

    private static long commonDivisor(long above, long below) {
        long a = above;
        long b = below;
        // Every second turn at least halves a, and a long has 63 bits.
        for (int turn = 0; turn < 130 && b > 0; turn++) {
            long rest = a % b;
            a = b;
            b = rest;
        }
        return a;
    }

    private static long tenTo(int n) {
        long power = 1;
        for (int i = 0; i < n; i++) {
            power *= 10;
        }
        return power;
    }

    private static int nextSeed(int z) {
        return z * 1103515245 + 12345;
    }

    private static int drawBelow(int n, int z) {
        return n > 0 ? (z & BUT_THE_SIGN) / 65536 % n : 0;
    }

    // ---- cleaning in time

    /** Whether the row tells hours as it must; toldHours then holds them. */
    private boolean readHours(Shelf told) {
        if (told.length > shop.suits) {
            return false;
        }
        for (int s = 0; s < toldHours.length; s++) {
            int v = s < told.length ? at(told.cells, s) : told.least();
            if (v == told.least()) {
                toldHours[s] = NOT_TOLD;
            } else if (isIn(v, 0, MOST_TOLD_HOUR)) {
                toldHours[s] = v;
            } else {
                return false;
            }
        }
        return true;
    }

    /** Puts the DIRTY ones that are told into cleaningOrder by hours, then numbers: how many. */
    private int orderCleaning() {
        int many = 0;
        for (int hour = 0; hour <= MOST_TOLD_HOUR; hour++) {
            for (int s = 0; s < shop.suits; s++) {
                if (at(toldHours, s) == hour && at(shop.state, s) == DIRTY) {
                    set(cleaningOrder, many, s);
                    many++;
                }
            }
        }
        return many;
    }

    /** The most that can be ready by their hours (bits), of several the least. */
    private int mostReady(int ordered) {
        int best = 0;
        for (int bits = 1; bits < 1 << MOST_SUITS; bits++) {
            if (Integer.bitCount(bits) > Integer.bitCount(best) && inTime(bits, ordered)) {
                best = bits;
            }
        }
        return best;
    }

    private boolean inTime(int bits, int ordered) {
        int hour = 0;
        int found = 0;
        for (int i = 0; i < ordered; i++) {
            int s = at(cleaningOrder, i);
            if (hasBit(bits, s)) {
                found++;
                hour += shop.kindOf(s).hours;
                if (hour > at(toldHours, s)) {
                    return false;
                }
            }
        }
        return found == Integer.bitCount(bits);
    }

    private int firstCleaned(int bits, int ordered) {
        for (int i = 0; i < ordered; i++) {
            if (hasBit(bits, at(cleaningOrder, i))) {
                return at(cleaningOrder, i);
            }
        }
        return NO_ONE;
    }

    // ---- fees

    private int feeTenths(int f) {
        int tenths = 0;
        int comers = comersFor(f);
        for (int b = 0; b < shop.bookings; b++) {
            int late = at(shop.late, b) - f / 4;
            tenths += hasBit(comers, b) && late > 0 ? late : 0;
        }
        return f * tenths;
    }

    private int comersFor(int f) {
        int bits = 0;
        for (int b = 0; b < shop.bookings; b++) {
            bits |= at(shop.late, b) >= f / 5 ? 1 << b : 0;
        }
        return bits;
    }

    // ---- pairs of a suit and the booking that had it

    private static int pairRefusal(Shelf pairs) {
        int refused = pairs.refusal(ROW);
        if (refused != 0) {
            return refused;
        }
        return pairs.length % 2 != 0 || pairs.length > MOST_PAIRS * 2 ? NO_PLACE : 0;
    }

    private int firstForged(Shelf pairs) {
        for (int i = 0; i + 1 < pairs.length; i += 2) {
            int s = at(pairs.cells, i);
            int b = at(pairs.cells, i + 1);
            if (!shop.isSuit(s) || !shop.isBooking(b) || !shop.isRightFor(s, b)) {
                return i / 2;
            }
        }
        return NO_ONE;
    }

    private static int suitsHad(Shelf pairs, int b) {
        int bits = 0;
        for (int i = 0; i + 1 < pairs.length; i += 2) {
            bits |= at(pairs.cells, i + 1) == b ? 1 << at(pairs.cells, i) : 0;
        }
        return bits;
    }

    // ---- small things

    private static boolean isShelf(int d) {
        return isIn(d, 0, SHELVES - 1);
    }

    private Shelf shelfAt(int d) {
        if (d < 0 || d >= shelves.length) {
            return noShelf;
        }
        Shelf shelf = shelves[d];
        return shelf == null ? noShelf : shelf;
    }

    private static boolean isIn(int n, int least, int most) {
        return n >= least && n <= most;
    }

    private static boolean hasBit(int bits, int i) {
        return (bits >> i & 1) != 0;
    }

    private static int at(int[] cells, int i) {
        return i >= 0 && i < cells.length ? cells[i] : 0;
    }

    private static void set(int[] cells, int i, int v) {
        if (i >= 0 && i < cells.length) {
            cells[i] = v;
        }
    }

    private static void fill(int[] from, int[] to) {
        for (int i = 0; i < from.length && i < to.length; i++) {
            to[i] = from[i];
        }
    }

    private static int caught(Suit kind) {
        try {
            kind.fail();
            return NO_FAILURE;
        } catch (IllegalArgumentException suitFailed) {
            return kind.figure;
        } catch (IllegalStateException blackFailed) {
            return 100 + kind.figure;
        } catch (UnsupportedOperationException silkFailed) {
            return 200 + kind.worth;
        }
    }

    /** A KIND of suit with its FIGURE: what does not change, so that many may share one. */
    private static final class Suit {
        final int number;
        final int figure;
        final int price;
        final int reach;
        final int hours;
        final int lasting;
        final int worth;

        /** First what a SUIT has, then what the kind right under it changes, then what is under that. */
        Suit(int k, int itsFigure) {
            int itsPrice = 10 + itsFigure;
            int itsReach = 1;
            int itsHours = 3;
            int itsLasting = 20 + itsFigure;
            int itsWorth = 4;
            if (isBlack(k)) {
                itsPrice += 5;
                itsHours += 1;
                itsWorth += itsFigure;
            } else if (k == WIDE || k == STRETCH) {
                itsPrice -= 2;
                itsReach += 1;
                itsWorth -= 2;
            } else if (isMixed(k)) {
                itsPrice /= 2;
                itsHours -= 1;
                itsWorth += 1;
            }
            if (k == SILK) {
                itsPrice *= 2;
                itsReach = 0;
                itsHours *= 2;
                itsLasting /= 2;
                itsWorth *= 2;
            } else if (k == STRETCH) {
                itsPrice += itsFigure;
                itsReach += 2;
                itsWorth += itsFigure;
            } else if (k == SHINY) {
                itsPrice -= 1;
                itsLasting -= 15;
                itsWorth /= 2;
            } else if (k == VELVET) {
                itsPrice += 3;
                itsHours += itsFigure;
                itsWorth += 3;
            }
            number = k;
            figure = itsFigure;
            price = itsPrice;
            reach = itsReach;
            hours = itsHours;
            lasting = itsLasting;
            worth = itsWorth;
        }

        private static boolean isBlack(int k) {
            return k == BLACK || k == SILK || k == VELVET;
        }

        private static boolean isMixed(int k) {
            return k == MIXED || k == SHINY;
        }

        /** Throws the FAILURE, if there is one. */
        void fail() {
            if (figure == 0 || isMixed(number)) {
                return;
            }
            if (number == SILK) {
                throw new UnsupportedOperationException("a silk one has failed");
            }
            if (isBlack(number)) {
                throw new IllegalStateException("a black one has failed");
            }
            throw new IllegalArgumentException("a suit has failed");
        }
    }

    /** A shelf: nothing, a KIND of suit, or a ROW. Its cells are made once and used for every row. */
    private static final class Shelf {
        final int[] cells = new int[ROW_ROOM];
        int holds = NOTHING;
        Suit kind = new Suit(SUIT, 0);
        int sort = BYTES;
        int length = 0;

        void clear() {
            holds = NOTHING;
            length = 0;
        }

        void hang(Suit what) {
            holds = KIND;
            kind = what;
            length = 0;
        }

        void lay(int ofSort, int n) {
            holds = ROW;
            sort = ofSort;
            length = n < 0 ? 0 : n > cells.length ? cells.length : n;
            for (int i = 0; i < cells.length; i++) {
                cells[i] = 0;
            }
        }

        int refusal(int wanted) {
            if (holds == NOTHING) {
                return BARE;
            }
            return holds == wanted ? 0 : OTHER_KIND;
        }

        int narrowed(int v) {
            return sort == BYTES ? (byte) v : sort == SHORTS ? (short) v : v;
        }

        int least() {
            return sort == BYTES ? LEAST_BYTE : sort == SHORTS ? LEAST_SHORT : LEAST_INT;
        }

        boolean hasStretch(int from, int n) {
            return n >= 0 && n <= length && from >= 0 && from <= length - n;
        }

        /** The byte at a place; behind the end -1, with which no text goes on either. */
        int byteAt(int place) {
            return place < length ? at(cells, place) : -1;
        }

        int number(int place, int digits) {
            int n = 0;
            for (int i = 0; i < digits; i++) {
                n = n * 10 + byteAt(place + i) - '0';
            }
            return n;
        }
    }

    /** All that THE IMAGE takes: suits, bookings, pence, the hour. */
    private static final class Shop {
        final Suit[] kinds = new Suit[MOST_SUITS];
        final int[] suitSize = new int[MOST_SUITS];
        final int[] worn = new int[MOST_SUITS];
        final int[] state = new int[MOST_SUITS];
        final int[] size = new int[MOST_BOOKINGS];
        final int[] group = new int[MOST_BOOKINGS];
        final int[] grows = new int[MOST_BOOKINGS];
        final int[] late = new int[MOST_BOOKINGS];
        final int[] absent = new int[MOST_BOOKINGS];
        final int[] has = new int[MOST_BOOKINGS];
        final Suit anyKind = new Suit(SUIT, 0);
        int suits = 0;
        int bookings = 0;
        int pence = 0;
        int hour = 0;

        void become(Shop other) {
            for (int s = 0; s < kinds.length; s++) {
                kinds[s] = other.kindOf(s);
            }
            fill(other.suitSize, suitSize);
            fill(other.worn, worn);
            fill(other.state, state);
            fill(other.size, size);
            fill(other.group, group);
            fill(other.grows, grows);
            fill(other.late, late);
            fill(other.absent, absent);
            fill(other.has, has);
            suits = other.suits;
            bookings = other.bookings;
            pence = other.pence;
            hour = other.hour;
        }

        boolean isSuit(int s) {
            return isIn(s, 0, suits - 1);
        }

        boolean isBooking(int b) {
            return isIn(b, 0, bookings - 1);
        }

        Suit kindOf(int s) {
            if (s < 0 || s >= kinds.length) {
                return anyKind;
            }
            Suit kind = kinds[s];
            return kind == null ? anyKind : kind;
        }

        int addSuit(Suit kind, int itsSize, int itsWorn) {
            int s = suits;
            if (s < 0 || s >= kinds.length) {
                return NO_ROOM;
            }
            kinds[s] = kind;
            set(suitSize, s, itsSize);
            set(worn, s, itsWorn);
            set(state, s, IN);
            suits++;
            return s;
        }

        int addBooking(int itsSize, int itsGroup, int odds) {
            int b = bookings;
            if (b >= MOST_BOOKINGS) {
                return NO_ROOM;
            }
            set(size, b, itsSize);
            set(group, b, itsGroup);
            set(grows, b, odds / 100);
            set(late, b, odds / 10 % 10);
            set(absent, b, odds % 10);
            set(has, b, NONE);
            bookings++;
            return b;
        }

        int hire(int s, int b) {
            if (!isSuit(s) || !isBooking(b)) {
                return NO_SUCH;
            }
            if (at(has, b) != NONE || !canHire(s, b, pence)) {
                return NOT_SO;
            }
            set(state, s, OUT);
            set(has, b, s);
            set(worn, s, at(worn, s) < MOST_WORN ? at(worn, s) + 1 : MOST_WORN);
            pence += kindOf(s).price;
            return pence;
        }

        boolean canHire(int s, int b, int penceThen) {
            return at(state, s) == IN && isRightFor(s, b) && penceThen + kindOf(s).price <= MOST_PENCE;
        }

        int giveBack(int s) {
            if (!isSuit(s)) {
                return NO_SUCH;
            }
            if (at(state, s) != OUT) {
                return NOT_SO;
            }
            int b = holderOf(s);
            set(state, s, DIRTY);
            set(has, b, NONE);
            return b;
        }

        int clean(int s) {
            if (!isSuit(s)) {
                return NO_SUCH;
            }
            int then = hour + kindOf(s).hours;
            if (at(state, s) != DIRTY || then > MOST_HOUR) {
                return NOT_SO;
            }
            set(state, s, IN);
            hour = then;
            return hour;
        }

        /** The booking that has the suit; -1 if none has it. */
        int holderOf(int s) {
            for (int b = 0; b < bookings; b++) {
                if (at(has, b) == s) {
                    return b;
                }
            }
            return -1;
        }

        boolean isRightFor(int s, int b) {
            return reaches(kindOf(s), at(suitSize, s), at(size, b));
        }

        boolean reaches(Suit kind, int itsSize, int wanted) {
            return itsSize - wanted <= kind.reach && wanted - itsSize <= kind.reach;
        }

        int suitsThatAre(int wanted) {
            int bits = 0;
            for (int s = 0; s < suits; s++) {
                bits |= at(state, s) == wanted ? 1 << s : 0;
            }
            return bits;
        }

        int openBookings() {
            int bits = 0;
            for (int b = 0; b < bookings; b++) {
                bits |= at(has, b) == NONE ? 1 << b : 0;
            }
            return bits;
        }

        int groupBits(int g) {
            int bits = 0;
            for (int b = 0; b < bookings; b++) {
                bits |= at(group, b) == g ? 1 << b : 0;
            }
            return bits;
        }

        /** The bookings (bits) that such a suit FITS, each as much grown as told, 20 at most. */
        int takers(Suit kind, int itsSize, int grown) {
            int bits = 0;
            for (int b = 0; b < bookings; b++) {
                bits |= reaches(kind, itsSize, Math.min(at(size, b) + grown, MOST_SIZE)) ? 1 << b : 0;
            }
            return bits;
        }

        /** How many of ten to the number of open bookings grow just so; 0 if others than these do. */
        long growthWeight(int grow, int open) {
            long weight = (grow & ~open) == 0 ? 1 : 0;
            for (int b = 0; b < bookings; b++) {
                if (hasBit(open, b)) {
                    weight *= hasBit(grow, b) ? at(grows, b) : 10 - at(grows, b);
                }
            }
            return weight;
        }

        int leastFor(int b, int free, int penceThen) {
            for (int s = 0; s < suits; s++) {
                if (hasBit(free, s) && canHire(s, b, penceThen)) {
                    return s;
                }
            }
            return NONE;
        }

        boolean couldChange(int a, int b) {
            int ofA = at(has, a);
            int ofB = at(has, b);
            return ofA != NONE && ofB != NONE && isRightFor(ofA, b) && isRightFor(ofB, a);
        }

        int hoursOf(int bits) {
            int hours = 0;
            for (int s = 0; s < suits; s++) {
                hours += hasBit(bits, s) ? kindOf(s).hours : 0;
            }
            return hours;
        }

        int allWorn() {
            int all = 0;
            for (int s = 0; s < suits; s++) {
                all += at(worn, s);
            }
            return all;
        }
    }

    /** Which suits can go to which bookings at once: a matching, grown suit by suit. */
    private static final class Fitting {
        final int[] usual = new int[MOST_SUITS + 1];
        final int[] grown = new int[MOST_SUITS + 1];
        final int[] takers = new int[MOST_SUITS + 1];
        final int[] prices = new int[MOST_SUITS + 1];
        final int[] bookingOf = new int[MOST_SUITS + 1];
        final int[] queue = new int[MOST_SUITS + 1];
        final int[] suitOf = new int[MOST_BOOKINGS];
        final int[] reachedBy = new int[MOST_BOOKINGS];
        final int[] chosen = new int[MOST_BOOKINGS];
        int open = 0;
        int in = 0;

        void load(Shop shop) {
            open = shop.openBookings();
            in = shop.suitsThatAre(IN);
            for (int s = 0; s < takers.length; s++) {
                Suit kind = shop.kindOf(s);
                int size = at(shop.suitSize, s);
                set(usual, s, hasBit(in, s) ? shop.takers(kind, size, 0) : 0);
                set(grown, s, hasBit(in, s) ? shop.takers(kind, size, 1) : 0);
                set(prices, s, kind.price);
            }
            fill(usual, takers);
        }

        /** One suit more, that the shop only thinks of. */
        void lend(Shop shop, Suit kind, int size) {
            Suit lent = kind == null ? shop.anyKind : kind;
            set(takers, EXTRA, shop.takers(lent, size, 0));
            set(prices, EXTRA, lent.price);
        }

        /** As if the bookings of these bits were grown. */
        void grow(int bits) {
            for (int s = 0; s < takers.length; s++) {
                takers[s] = at(usual, s) & ~bits | at(grown, s) & bits;
            }
        }

        /** As if each group took its chosen kind alone; false if a choice before did as much. */
        boolean dress(Shop shop, int choice) {
            fill(usual, takers);
            for (int g = 1; g <= MOST_GROUP; g++) {
                int members = shop.groupBits(g) & open;
                int k = choice >> 3 * (g - 1) & KINDS - 1;
                int served = 0;
                for (int s = 0; s < takers.length; s++) {
                    if (shop.kindOf(s).number != k) {
                        takers[s] &= ~members;
                    }
                    served |= at(takers, s) & members;
                }
                if (served == 0 && k != 0) {
                    return false;
                }
            }
            return true;
        }

        int most(int bookings, int suits) {
            clear();
            int seated = 0;
            for (int s = 0; s < takers.length; s++) {
                if (hasBit(suits, s) && seat(s, bookings)) {
                    seated++;
                }
            }
            return seated;
        }

        /** The dearest first: one that finds no place by then never finds one later. */
        int richest(int bookings, int suits) {
            clear();
            int rest = suits;
            int pence = 0;
            for (int turn = 0; turn < takers.length && rest != 0; turn++) {
                int s = dearest(rest);
                rest &= ~(1 << s);
                pence += seat(s, bookings) ? at(prices, s) : 0;
            }
            return pence;
        }

        private int dearest(int suits) {
            int best = 0;
            int bestPrice = -1;
            for (int s = 0; s < prices.length; s++) {
                if (hasBit(suits, s) && prices[s] > bestPrice) {
                    best = s;
                    bestPrice = prices[s];
                }
            }
            return best;
        }

        /** Fills chosen with the first of those that serve most: the suits (bits) left over. */
        int chooseFirst() {
            int wanted = most(open, in);
            int free = in;
            int rest = open;
            for (int b = 0; b < chosen.length; b++) {
                rest &= ~(1 << b);
                int s = hasBit(open, b) ? leastKeeping(b, rest, free, wanted) : NONE;
                chosen[b] = s;
                if (s != NONE) {
                    free &= ~(1 << s);
                    wanted--;
                }
            }
            return free;
        }

        /** The least suit for the booking with which as many as wanted are still served. */
        private int leastKeeping(int b, int rest, int free, int wanted) {
            for (int s = 0; s < takers.length; s++) {
                boolean could = hasBit(free, s) && hasBit(at(takers, s), b);
                if (could && most(rest, free & ~(1 << s)) == wanted - 1) {
                    return s;
                }
            }
            return NONE;
        }

        private void clear() {
            for (int s = 0; s < bookingOf.length; s++) {
                bookingOf[s] = NONE;
            }
            for (int b = 0; b < suitOf.length; b++) {
                suitOf[b] = NONE;
            }
        }

        /** Whether the suit finds a booking, those seated before it moving on where they must. */
        private boolean seat(int suit, int bookings) {
            int left = bookings;
            int end = 1;
            set(queue, 0, suit);
            for (int i = 0; i < end && i < queue.length; i++) {
                int s = queue[i];
                for (int b = 0; b < suitOf.length; b++) {
                    if (hasBit(left & at(takers, s), b)) {
                        left &= ~(1 << b);
                        set(reachedBy, b, s);
                        if (suitOf[b] == NONE) {
                            moveOn(b);
                            return true;
                        }
                        set(queue, end, suitOf[b]);
                        end++;
                    }
                }
            }
            return false;
        }

        private void moveOn(int booking) {
            int b = booking;
            for (int turn = 0; turn < queue.length && b != NONE; turn++) {
                int s = at(reachedBy, b);
                int next = at(bookingOf, s);
                set(suitOf, b, s);
                set(bookingOf, s, b);
                b = next;
            }
        }
    }
}
