import java.util.Random;

/** Runs of calls by seeds, every answer held against PlainShop's: ordinary, edges, and wild arguments. */
public final class RandomRunsTest {
    private static final int[] WILD = {-1, -2, -4, 7, 8, 9, 10, 20, 21, 99, 100, 101, 127, 128, 999, 1000,
        Integer.MIN_VALUE, Integer.MAX_VALUE, -128, -32768, 1 << 30};
    private static final int CALLS = 42;

    private final Random random;
    private final boolean wild;
    private BackByNoonOnMonday x = new BackByNoonOnMonday();
    private PlainShop y = new PlainShop();

    private RandomRunsTest(long seed, boolean wild) {
        random = new Random(seed);
        this.wild = wild;
    }

    public static void main(String[] args) {
        int runs = args.length > 0 ? Integer.parseInt(args[0]) : 400;
        for (int run = 0; run < runs && !Check.anyWrong(); run++) {
            new RandomRunsTest(run, run % 4 == 3).go();
        }
        for (int run = 0; run < 5 * runs && !Check.anyWrong(); run++) {
            new RandomRunsTest(-1 - run, false).goFull();
        }
        Check.end();
    }

    private int upTo(int most) {
        if (wild && random.nextInt(12) == 0) {
            return WILD[random.nextInt(WILD.length)];
        }
        return random.nextInt(80) == 0 ? most + 1 : random.nextInt(most + 1);
    }

    private int aSuit() {
        return upTo(Math.max(0, y.now.suits.size() - 1));
    }

    private int aGuest() {
        return upTo(Math.max(0, y.now.guests.size() - 1));
    }

    private int aSize() {
        return random.nextInt(10) == 0 ? upTo(20) : narrow();
    }

    private int narrow() {
        return low + random.nextInt(spread);
    }

    private int low;
    private int spread = 5;

    private void go() {
        low = random.nextInt(16);
        int calls = 0;
        if (random.nextInt(5) > 0) {
            calls = fillShop(random.nextInt(8), random.nextInt(8));
        }
        calls += random.nextInt(3) == 0 ? hireSome() : 0;
        if (random.nextBoolean()) {
            Check.due("image", x.image(), y.image());
            calls++;
        }
        while (calls < 460) {
            calls += random.nextInt(12) == 0 ? story() : ask(random.nextInt(CALLS));
        }
    }

    /** A short run in a shop that is nearly full, each question asked once. */
    private void goFull() {
        low = random.nextInt(16);
        spread = 2 + random.nextInt(4);
        fillShop(4 + random.nextInt(4), 3 + random.nextInt(4));
        if (random.nextInt(3) == 0) {
            wearAll();
        }
        for (int s = 0; s < y.now.suits.size(); s++) {
            if (random.nextInt(3) == 0) {
                int b = random.nextInt(y.now.guests.size());
                Check.due("hires", x.hires(s, b), y.hires(s, b));
            }
        }
        for (int s = 0; s < y.now.suits.size(); s++) {
            if (random.nextInt(3) == 0) {
                Check.due("returns", x.returns(s), y.returns(s));
            }
        }
        for (int call = 8; call < CALLS; call++) {
            if (call < 28 || call == 30) {
                ask(call);
            }
        }
        for (int b = -1; b < y.now.guests.size(); b++) {
            Check.due("served " + b, x.served(b), y.served(b));
        }
        tellHours();
        tellPairs();
        tellCounts();
        askAll();
    }

    /** Most suits are hired by one whom they fit, and brought back DIRTY. */
    private void wearAll() {
        for (int s = 0; s < y.now.suits.size(); s++) {
            for (int b = 0; b < y.now.guests.size(); b++) {
                if (y.fits(s, b) == 1 && random.nextInt(3) > 0) {
                    Check.due("hires", x.hires(s, b), y.hires(s, b));
                    Check.due("returns", x.returns(s), y.returns(s));
                    break;
                }
            }
        }
    }

    private int fillShop(int suits, int guests) {
        int calls = 0;
        int kinds = random.nextBoolean() ? 8 : 2;
        for (int s = 0; s < suits; s++) {
            int k = kinds == 8 ? random.nextInt(8) : random.nextInt(2) * 4;
            int figure = random.nextInt(10);
            int size = narrow();
            x.keep(0, 1, k, figure);
            y.keep(0, 1, k, figure);
            Check.due("buys", x.buys(0, size), y.buys(0, size));
            calls += 2;
        }
        for (int b = 0; b < guests; b++) {
            int size = narrow();
            int group = random.nextInt(4);
            int odds = random.nextInt(1000);
            Check.due("books", x.books(size, group, odds), y.books(size, group, odds));
            calls++;
        }
        return calls;
    }

    /** Something told at some length: a text, a row of hours, of pairs, of counts; then asked. */
    private int story() {
        switch (random.nextInt(5)) {
            case 0: return tellText();
            case 1: return tellHours();
            case 2: return tellPairs();
            case 3: return tellCounts();
            default: return hireSome();
        }
    }

    private int lay(int d, int sort, int[] values) {
        Check.due("row", x.row(d, sort, values.length), y.row(d, sort, values.length));
        for (int i = 0; i < values.length; i++) {
            Check.due("put", x.put(d, i, values[i]), y.put(d, i, values[i]));
        }
        return values.length + 1;
    }

    private int tellText() {
        StringBuilder text = new StringBuilder();
        int statements = random.nextInt(6);
        for (int i = 0; i < statements; i++) {
            statement(text);
        }
        if (text.length() > 0 && random.nextInt(4) == 0) {
            int place = random.nextInt(text.length());
            switch (random.nextInt(3)) {
                case 0: text.setLength(place); break;
                case 1: text.deleteCharAt(place); break;
                default: text.setCharAt(place, "sbhrc;0 9/:\u00b3".charAt(random.nextInt(12)));
            }
        }
        int[] bytes = new int[text.length()];
        for (int i = 0; i < bytes.length; i++) {
            bytes[i] = text.charAt(i);
        }
        int d = random.nextInt(4);
        int calls = lay(d, 0, bytes);
        Check.due("shop of " + text, x.shop(d), y.shop(d));
        return calls + 1 + askAll();
    }

    private void statement(StringBuilder text) {
        switch (random.nextInt(6)) {
            case 0:
                text.append('s').append(random.nextInt(random.nextInt(9) == 0 ? 10 : 8)).append(random.nextInt(10));
                two(text, aSize()).append(random.nextInt(10)).append(random.nextInt(10));
                break;
            case 1:
                two(text.append('b'), aSize()).append(random.nextInt(random.nextInt(9) == 0 ? 5 : 4));
                text.append(random.nextInt(10)).append(random.nextInt(10)).append(random.nextInt(10));
                break;
            case 2: case 3:
                text.append('h').append(random.nextInt(5)).append(random.nextInt(5));
                break;
            case 4:
                text.append('r').append(random.nextInt(5));
                break;
            default:
                text.append('c').append(random.nextInt(5));
        }
        text.append(';');
    }

    private static StringBuilder two(StringBuilder text, int n) {
        int shown = Math.floorMod(n, 100);
        return text.append(shown / 10).append(shown % 10);
    }

    private static int leastOf(int sort) {
        return sort == 0 ? -128 : sort == 1 ? -32768 : Integer.MIN_VALUE;
    }

    private int tellHours() {
        int sort = random.nextInt(3);
        int extra = random.nextInt(10) == 0 ? 1 : 0;
        int[] hours = new int[random.nextInt(y.now.suits.size() + 1) + extra];
        for (int i = 0; i < hours.length; i++) {
            hours[i] = random.nextInt(5) == 0 ? leastOf(sort) : random.nextInt(30) == 0 ? upTo(99) : random.nextInt(25);
        }
        int d = random.nextInt(4);
        int calls = lay(d, sort, hours);
        for (int what = 0; what < 3; what++) {
            Check.due("ready " + what, x.ready(d, what), y.ready(d, what));
        }
        return calls + 3;
    }

    private int tellPairs() {
        int[] pairs = new int[random.nextInt(6) * 2 + (random.nextInt(12) == 0 ? 1 : 0)];
        for (int i = 0; i < pairs.length; i++) {
            pairs[i] = i % 2 == 0 ? aSuit() : aGuest();
        }
        int d = random.nextInt(4);
        int calls = lay(d, random.nextInt(3), pairs);
        int set = random.nextInt(3) == 0 ? 1 << random.nextInt(7) : random.nextInt(8);
        Check.due("forged", x.forged(d), y.forged(d));
        Check.due("stained 0", x.stained(d, set, 0), y.stained(d, set, 0));
        Check.due("stained 1", x.stained(d, set, 1), y.stained(d, set, 1));
        return calls + 3;
    }

    private int tellCounts() {
        int sort = random.nextInt(3);
        int[] counts = new int[random.nextInt(6)];
        int in = Integer.bitCount(y.count(4));
        for (int i = 0; i < counts.length; i++) {
            counts[i] = random.nextInt(8) == 0 ? leastOf(sort) : in + i + (random.nextInt(20) == 0 ? 1 : 0);
        }
        int d = random.nextInt(4);
        int calls = lay(d, sort, counts);
        Check.due("judge", x.judge(d), y.judge(d));
        return calls + 1;
    }

    private int hireSome() {
        int calls = 0;
        for (int s = 0; s < y.now.suits.size(); s++) {
            int b = aGuest();
            Check.due("hires", x.hires(s, b), y.hires(s, b));
            calls++;
            if (random.nextInt(3) == 0) {
                Check.due("returns", x.returns(s), y.returns(s));
                calls++;
            }
        }
        return calls;
    }

    private int askAll() {
        for (int what = 0; what < 8; what++) {
            Check.due("count " + what, x.count(what), y.count(what));
        }
        return 8;
    }

    /** One call of those of the face by its number. */
    private int ask(int call) {
        int d = upTo(3);
        int p = upTo(1);
        switch (call) {
            case 0: Check.due("shop", x.shop(d), y.shop(d)); break;
            case 1: { int s = aSuit(); int w = upTo(8); Check.due("suit", x.suit(s, w), y.suit(s, w)); break; }
            case 2: { int b = aGuest(); int w = upTo(5); Check.due("booking", x.booking(b, w), y.booking(b, w)); break; }
            case 3: { int z = aSize(); Check.due("buys", x.buys(d, z), y.buys(d, z)); break; }
            case 4: { int z = aSize(); int g = upTo(3); int o = upTo(999); Check.due("books", x.books(z, g, o), y.books(z, g, o)); break; }
            case 5: { if (random.nextInt(3) > 0) { return 1; } int s = aSuit(); int b = aGuest(); Check.due("hires", x.hires(s, b), y.hires(s, b)); break; }
            case 6: { int s = aSuit(); Check.due("returns", x.returns(s), y.returns(s)); break; }
            case 7: { int s = aSuit(); Check.due("cleans", x.cleans(s), y.cleans(s)); break; }
            case 8: { int s = aSuit(); int b = aGuest(); Check.due("fits", x.fits(s, b), y.fits(s, b)); break; }
            case 9: { int i = aGuest() - random.nextInt(2); Check.due("served", x.served(i), y.served(i)); break; }
            case 10: Check.due("leftOver", x.leftOver(), y.leftOver()); break;
            case 11: Check.due("earned", x.earned(), y.earned()); break;
            case 12: Check.due("alike", x.alike(), y.alike()); break;
            case 13: Check.due("oneMore", x.oneMore(), y.oneMore()); break;
            case 14: Check.due("grown", x.grown(p), y.grown(p)); break;
            case 15: { int k = upTo(7); Check.due("come", x.come(k, p), y.come(k, p)); break; }
            case 16: Check.due("refuse", x.refuse(), y.refuse()); break;
            case 17: { int z = aSize(); Check.due("buy", x.buy(z, p), y.buy(z, p)); break; }
            case 18: Check.due("sell", x.sell(), y.sell()); break;
            case 19: Check.due("shines", x.shines(), y.shines()); break;
            case 20: { int w = upTo(2); Check.due("ready", x.ready(d, w), y.ready(d, w)); break; }
            default: return askMore(call, d, p);
        }
        return 1;
    }

    private int askMore(int call, int d, int p) {
        switch (call) {
            case 21: { int f = upTo(20); Check.due("fee", x.fee(f, p), y.fee(f, p)); break; }
            case 22: Check.due("bestFee", x.bestFee(), y.bestFee()); break;
            case 23: { int c = upTo(10); int a = upTo(99); int b = upTo(99); Check.due("atFive", x.atFive(c, a, b), y.atFive(c, a, b)); break; }
            case 24: { int s = aSuit(); int t = upTo(99); int h = upTo(random.nextBoolean() ? 99 : 999); Check.due("taxi", x.taxi(s, t, h), y.taxi(s, t, h)); break; }
            case 25: Check.due("friday", x.friday(p), y.friday(p)); break;
            case 26: Check.due("tight", x.tight(), y.tight()); break;
            case 27: { int set = upTo(127); Check.due("stained", x.stained(d, set, p), y.stained(d, set, p)); break; }
            case 28: Check.due("forged", x.forged(d), y.forged(d)); break;
            case 29: Check.due("judge", x.judge(d), y.judge(d)); break;
            case 30: { int n = upTo(20); int z = random.nextInt(); Check.due("weeks", x.weeks(n, z, p), y.weeks(n, z, p)); break; }
            case 31: Check.due("image", x.image(), y.image()); break;
            case 32: Check.due("restore", x.restore(), y.restore()); return 1 + askAll();
            case 33: { int w = upTo(7); Check.due("count", x.count(w), y.count(w)); break; }
            case 34: { int k = upTo(7); int f = upTo(9); Check.due("keep", x.keep(d, p, k, f), y.keep(d, p, k, f)); break; }
            case 35: { int s = upTo(2); int n = upTo(random.nextBoolean() ? 6 : 100); Check.due("row", x.row(d, s, n), y.row(d, s, n)); break; }
            case 36: { int i = upTo(6); int v = random.nextBoolean() ? upTo(20) : random.nextInt(); Check.due("put", x.put(d, i, v), y.put(d, i, v)); break; }
            case 37: { int i = upTo(6); Check.due("element", element(d, i), y.element(d, i)); break; }
            case 38: { int i = upTo(3); int e = upTo(3); int j = upTo(3); int n = upTo(4); Check.due("copy", x.copy(d, i, e, j, n), y.copy(d, i, e, j, n)); break; }
            case 39: Check.due("cost", x.cost(d), y.cost(d)); break;
            case 40: Check.due("toss", x.toss(d), y.toss(d)); break;
            default: return askAll();
        }
        return 1;
    }

    private long element(int d, int i) {
        int thrown = Check.thrownByElement(x, d, i);
        return thrown == 0 ? x.element(d, i) : 5000000000L + thrown;
    }
}
