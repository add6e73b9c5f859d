import java.math.BigInteger;
import java.util.ArrayList;
import java.util.List;
import java.util.TreeMap;

/**
 * The document once more, told as plainly as can be: every question is answered by trying all that
 * there is. It shares nothing with the class that it is held against.
 */
final class PlainShop {
    static final class Garment {
        int kind;
        int figure;
        int size;
        int worn;
        int state;

        Garment(int kind, int figure, int size, int worn) {
            this.kind = kind;
            this.figure = figure;
            this.size = size;
            this.worn = worn;
        }

        Garment same() {
            Garment g = new Garment(kind, figure, size, worn);
            g.state = state;
            return g;
        }

        int price() {
            int suit = 10 + figure;
            int[] all = {suit, suit + 5, suit - 2, suit / 2, 2 * (suit + 5), suit - 2 + figure, suit / 2 - 1, suit + 8};
            return all[kind];
        }

        int gives() {
            return new int[] {1, 1, 2, 1, 0, 4, 1, 1}[kind];
        }

        int cleans() {
            return new int[] {3, 4, 3, 2, 8, 3, 2, 4 + figure}[kind];
        }

        int lasts() {
            int suit = 20 + figure;
            return new int[] {suit, suit, suit, suit, suit / 2, suit, suit - 15, suit}[kind];
        }

        int cost() {
            return new int[] {4, 4 + figure, 2, 5, 8 + 2 * figure, 2 + figure, 2, 7 + figure}[kind];
        }

        boolean fitsSize(int wanted) {
            return Math.abs(size - wanted) <= gives();
        }
    }

    static final class Guest {
        int size;
        int group;
        int grows;
        int late;
        int absent;
        int has = 9;

        Guest same() {
            Guest g = new Guest();
            g.size = size;
            g.group = group;
            g.grows = grows;
            g.late = late;
            g.absent = absent;
            g.has = has;
            return g;
        }
    }

    static final class State {
        List<Garment> suits = new ArrayList<>();
        List<Guest> guests = new ArrayList<>();
        int pence;
        int hour;

        State same() {
            State s = new State();
            for (Garment g : suits) {
                s.suits.add(g.same());
            }
            for (Guest g : guests) {
                s.guests.add(g.same());
            }
            s.pence = pence;
            s.hour = hour;
            return s;
        }
    }

    State now = new State();
    State picture;
    /** null: nothing; a Garment: a kind; an int[]: a row, its sort in place 0. */
    Object[] shelves = new Object[8];

    // ---- refusals

    private static boolean in(int n, int least, int most) {
        return least <= n && n <= most;
    }

    private int wantsRow(int d) {
        return shelves[d] == null ? -11 : shelves[d] instanceof int[] ? 0 : -12;
    }

    private int wantsKind(int d) {
        return shelves[d] == null ? -11 : shelves[d] instanceof Garment ? 0 : -12;
    }

    private boolean noSuit(int s) {
        return !in(s, 0, now.suits.size() - 1);
    }

    private boolean noGuest(int b) {
        return !in(b, 0, now.guests.size() - 1);
    }

    // ---- the shop as told

    int shop(int d) {
        if (!in(d, 0, 7)) {
            return -1;
        }
        if (wantsRow(d) != 0) {
            return wantsRow(d);
        }
        int[] row = (int[]) shelves[d];
        if (row[0] != 0) {
            return -12;
        }
        StringBuilder b = new StringBuilder();
        for (int i = 1; i < row.length; i++) {
            b.append((char) (row[i] & 255));
        }
        String text = b.toString();
        int whole = longestStart(text);
        if (whole < text.length() || !text.matches("(" + STATEMENT + ")+")) {
            return -1000 - whole;
        }
        State before = now.same();
        int place = 0;
        int statements = 0;
        for (String part : text.split(";")) {
            if (!done(part)) {
                now = before;
                return -2000 - place;
            }
            place += part.length() + 1;
            statements++;
        }
        return statements;
    }

    private static final String STATEMENT = "[sb][0-9]{6};|h[0-9]{2};|[rc][0-9];";

    /** How many bytes of it some text without fault of the first kind begins with. */
    private static int longestStart(String text) {
        String[] ends = {"", ";", "0;", "00;", "000;", "0000;", "00000;", "000000;"};
        for (int n = text.length(); n > 0; n--) {
            for (String end : ends) {
                if ((text.substring(0, n) + end).matches("(" + STATEMENT + ")+")) {
                    return n;
                }
            }
        }
        return 0;
    }

    private boolean done(String part) {
        char letter = part.charAt(0);
        int n = Integer.parseInt(part.substring(1));
        switch (letter) {
            case 's':
                return n / 100000 < 8 && n / 100 % 100 <= 20
                    && addSuit(new Garment(n / 100000, n / 10000 % 10, n / 100 % 100, n % 100)) >= 0;
            case 'b':
                return books(n / 10000, n / 1000 % 10, n % 1000) >= 0;
            case 'h':
                return hires(n / 10, n % 10) >= 0;
            case 'r':
                return returns(n) >= 0;
            default:
                return cleans(n) >= 0;
        }
    }

    private int addSuit(Garment g) {
        if (now.suits.size() == 7) {
            return -2;
        }
        now.suits.add(g);
        return now.suits.size() - 1;
    }

    int suit(int s, int what) {
        if (noSuit(s) || !in(what, 0, 8)) {
            return -1;
        }
        Garment g = now.suits.get(s);
        return new int[] {g.kind, g.figure, g.size, g.worn, g.state, g.price(), g.gives(), g.cleans(), g.lasts()}[what];
    }

    int booking(int b, int what) {
        if (noGuest(b) || !in(what, 0, 5)) {
            return -1;
        }
        Guest g = now.guests.get(b);
        return new int[] {g.size, g.group, g.grows, g.late, g.absent, g.has}[what];
    }

    int buys(int d, int size) {
        if (!in(d, 0, 7) || !in(size, 0, 20)) {
            return -1;
        }
        if (wantsKind(d) != 0) {
            return wantsKind(d);
        }
        Garment kept = (Garment) shelves[d];
        return addSuit(new Garment(kept.kind, kept.figure, size, 0));
    }

    int books(int size, int group, int odds) {
        if (!in(size, 0, 20) || !in(group, 0, 3) || !in(odds, 0, 999)) {
            return -1;
        }
        if (now.guests.size() == 7) {
            return -2;
        }
        Guest g = new Guest();
        g.size = size;
        g.group = group;
        g.grows = odds / 100;
        g.late = odds / 10 % 10;
        g.absent = odds % 10;
        now.guests.add(g);
        return now.guests.size() - 1;
    }

    int hires(int s, int b) {
        if (noSuit(s) || noGuest(b)) {
            return -1;
        }
        Garment g = now.suits.get(s);
        Guest who = now.guests.get(b);
        if (g.state != 0 || who.has != 9 || !g.fitsSize(who.size) || now.pence + g.price() > 9999) {
            return -3;
        }
        g.state = 1;
        g.worn = Math.min(99, g.worn + 1);
        who.has = s;
        now.pence += g.price();
        return now.pence;
    }

    private int holder(int s) {
        for (int b = 0; b < now.guests.size(); b++) {
            if (now.guests.get(b).has == s) {
                return b;
            }
        }
        throw new IllegalStateException("an OUT one that nobody has");
    }

    int returns(int s) {
        if (noSuit(s)) {
            return -1;
        }
        if (now.suits.get(s).state != 1) {
            return -3;
        }
        int b = holder(s);
        now.suits.get(s).state = 2;
        now.guests.get(b).has = 9;
        return b;
    }

    int cleans(int s) {
        if (noSuit(s)) {
            return -1;
        }
        Garment g = now.suits.get(s);
        if (g.state != 2 || now.hour + g.cleans() > 999) {
            return -3;
        }
        g.state = 0;
        now.hour += g.cleans();
        return now.hour;
    }

    // ---- whom which

    int fits(int s, int b) {
        if (noSuit(s) || noGuest(b)) {
            return -1;
        }
        return now.suits.get(s).fitsSize(now.guests.get(b).size) ? 1 : 0;
    }

    /** All ways to give suits that are IN to bookings that HAVE none: each a list of suits by bookings, in order. */
    private List<int[]> ways(State state) {
        List<int[]> all = new ArrayList<>();
        int[] way = new int[state.guests.size()];
        fill(state, way, 0, 0, all);
        return all;
    }

    private void fill(State state, int[] way, int b, int taken, List<int[]> all) {
        if (b == way.length) {
            all.add(way.clone());
            return;
        }
        Guest g = state.guests.get(b);
        if (g.has == 9) {
            for (int s = 0; s < state.suits.size(); s++) {
                Garment it = state.suits.get(s);
                if (it.state == 0 && (taken >> s & 1) == 0 && it.fitsSize(g.size)) {
                    way[b] = s;
                    fill(state, way, b + 1, taken | 1 << s, all);
                }
            }
        }
        way[b] = 9;
        fill(state, way, b + 1, taken, all);
    }

    private static int servedBy(int[] way) {
        int n = 0;
        for (int s : way) {
            n += s == 9 ? 0 : 1;
        }
        return n;
    }

    private int[] firstBest() {
        int[] best = null;
        for (int[] way : ways(now)) {
            if (best == null || servedBy(way) > servedBy(best)) {
                best = way;
            }
        }
        return best;
    }

    int served(int i) {
        if (i < -1 || i >= now.guests.size()) {
            return -1;
        }
        return i == -1 ? servedBy(firstBest()) : firstBest()[i];
    }

    int leftOver() {
        int bits = 0;
        for (int s = 0; s < now.suits.size(); s++) {
            bits |= now.suits.get(s).state == 0 ? 1 << s : 0;
        }
        for (int s : firstBest()) {
            bits &= s == 9 ? -1 : ~(1 << s);
        }
        return bits;
    }

    /** The most of a value over the ways, by suits taken: value 0 counts bookings, 1 prices. */
    private int most(State state, int value) {
        // reach[taken]: the most with just these suits taken by the bookings so far.
        TreeMap<Integer, Integer> reach = new TreeMap<>();
        reach.put(0, 0);
        for (Guest g : state.guests) {
            TreeMap<Integer, Integer> next = new TreeMap<>(reach);
            if (g.has == 9) {
                for (int taken : reach.keySet()) {
                    for (int s = 0; s < state.suits.size(); s++) {
                        Garment it = state.suits.get(s);
                        if (it.state == 0 && (taken >> s & 1) == 0 && it.fitsSize(g.size)) {
                            next.merge(taken | 1 << s, reach.get(taken) + (value == 0 ? 1 : it.price()), Math::max);
                        }
                    }
                }
            }
            reach = next;
        }
        int best = 0;
        for (int v : reach.values()) {
            best = Math.max(best, v);
        }
        return best;
    }

    int earned() {
        return most(now, 1);
    }

    int alike() {
        int best = 0;
        for (int[] way : ways(now)) {
            int[] kind = {-1, -1, -1, -1};
            boolean so = true;
            for (int b = 0; b < way.length; b++) {
                int g = now.guests.get(b).group;
                if (way[b] != 9 && g != 0) {
                    int k = now.suits.get(way[b]).kind;
                    so &= kind[g] == -1 || kind[g] == k;
                    kind[g] = k;
                }
            }
            best = so ? Math.max(best, servedBy(way)) : best;
        }
        return best;
    }

    private int mostWith(int kind, int figure, int size, int value) {
        State then = now.same();
        then.suits.add(new Garment(kind, figure, size, 0));
        return most(then, value);
    }

    int oneMore() {
        int best = most(now, 0);
        int answer = -4;
        for (int size = 0; size <= 20; size++) {
            int v = mostWith(0, 0, size, 0);
            if (v > best) {
                best = v;
                answer = size;
            }
        }
        return answer;
    }

    private static long part(long above, long below, int part) {
        BigInteger g = BigInteger.valueOf(above).gcd(BigInteger.valueOf(below));
        return (part == 0 ? above : below) / g.longValue();
    }

    long grown(int part) {
        if (!in(part, 0, 1)) {
            return 1000000001L;
        }
        List<Integer> open = new ArrayList<>();
        for (int b = 0; b < now.guests.size(); b++) {
            if (now.guests.get(b).has == 9) {
                open.add(b);
            }
        }
        long below = 1;
        for (int i = 0; i < open.size(); i++) {
            below *= 10;
        }
        return part(grownFrom(now.same(), open, 0), below, part);
    }

    private long grownFrom(State then, List<Integer> open, int i) {
        if (i == open.size()) {
            return most(then, 0) == open.size() ? 1 : 0;
        }
        Guest g = then.guests.get(open.get(i));
        long stays = (10 - g.grows) * grownFrom(then, open, i + 1);
        int before = g.size;
        g.size = Math.min(20, before + 1);
        long grows = g.grows == 0 ? 0 : g.grows * grownFrom(then, open, i + 1);
        g.size = before;
        return stays + grows;
    }

    long come(int k, int part) {
        if (!in(k, 0, 7) || !in(part, 0, 1)) {
            return 1000000001L;
        }
        int n = now.guests.size();
        long above = 0;
        long below = 1;
        for (int b = 0; b < n; b++) {
            below *= 10;
        }
        for (int who = 0; who < 1 << n; who++) {
            if (Integer.bitCount(who) <= k) {
                long weight = 1;
                for (int b = 0; b < n; b++) {
                    int absent = now.guests.get(b).absent;
                    weight *= (who >> b & 1) == 1 ? 10 - absent : absent;
                }
                above += weight;
            }
        }
        return part(above, below, part);
    }

    int refuse() {
        for (int b = 0; b < now.guests.size(); b++) {
            if (now.guests.get(b).has == 9) {
                State then = now.same();
                then.guests.remove(b);
                if (most(then, 1) == earned()) {
                    return b;
                }
            }
        }
        return -4;
    }

    int buy(int size, int what) {
        if (!in(size, 0, 20) || !in(what, 0, 1)) {
            return -1;
        }
        int best = 0;
        for (int k = 1; k < 8; k++) {
            best = mostWith(k, 5, size, 1) > mostWith(best, 5, size, 1) ? k : best;
        }
        return what == 0 ? best : mostWith(best, 5, size, 1) - earned();
    }

    int sell() {
        int best = -4;
        int bestEarned = 0;
        for (int s = 0; s < now.suits.size(); s++) {
            if (now.suits.get(s).state == 0) {
                State then = now.same();
                then.suits.get(s).state = 2;
                int v = most(then, 1);
                if (best == -4 || v > bestEarned || v == bestEarned && now.suits.get(s).worn > now.suits.get(best).worn) {
                    best = s;
                    bestEarned = v;
                }
            }
        }
        return best;
    }

    int shines() {
        int bits = 0;
        for (int s = 0; s < now.suits.size(); s++) {
            bits |= now.suits.get(s).worn > now.suits.get(s).lasts() ? 1 << s : 0;
        }
        return bits;
    }

    // ---- cleaning, fees

    private static int least(int sort) {
        return sort == 0 ? -128 : sort == 1 ? -32768 : Integer.MIN_VALUE;
    }

    int ready(int d, int what) {
        if (!in(d, 0, 7) || !in(what, 0, 2)) {
            return -1;
        }
        if (wantsRow(d) != 0) {
            return wantsRow(d);
        }
        int[] row = (int[]) shelves[d];
        if (row.length - 1 > now.suits.size()) {
            return -13;
        }
        List<Integer> wanted = new ArrayList<>();
        int all = 0;
        for (int s = 0; s < now.suits.size(); s++) {
            all += now.suits.get(s).state == 2 ? now.suits.get(s).cleans() : 0;
            if (s + 1 < row.length && row[s + 1] != least(row[0])) {
                if (!in(row[s + 1], 0, 99)) {
                    return -13;
                }
                if (now.suits.get(s).state == 2) {
                    wanted.add(s);
                }
            }
        }
        // Every order in which some of them are cleaned, all in time.
        best = 0;
        tryOrders(row, wanted, 0, 0);
        int first = -4;
        for (int s : wanted) {
            if ((best >> s & 1) == 1 && (first == -4 || row[s + 1] < row[first + 1])) {
                first = s;
            }
        }
        return what == 0 ? Integer.bitCount(best) : what == 1 ? first : all;
    }

    private int best;

    private void tryOrders(int[] row, List<Integer> wanted, int done, int hour) {
        int n = Integer.bitCount(done);
        if (n > Integer.bitCount(best) || n == Integer.bitCount(best) && done < best) {
            best = done;
        }
        for (int s : wanted) {
            int then = hour + now.suits.get(s).cleans();
            if ((done >> s & 1) == 0 && then <= row[s + 1]) {
                tryOrders(row, wanted, done | 1 << s, then);
            }
        }
    }

    int fee(int f, int what) {
        if (!in(f, 0, 20) || !in(what, 0, 1)) {
            return -1;
        }
        int bits = 0;
        int tenths = 0;
        for (int b = 0; b < now.guests.size(); b++) {
            int late = now.guests.get(b).late;
            if (late >= f / 5) {
                bits |= 1 << b;
                tenths += f * Math.max(0, late - f / 4);
            }
        }
        return what == 0 ? tenths : bits;
    }

    int bestFee() {
        int answer = 0;
        for (int f = 20; f >= 0; f--) {
            answer = fee(f, 0) >= fee(answer, 0) ? f : answer;
        }
        return answer;
    }

    int atFive(int c, int p, int q) {
        if (!in(c, 0, 10) || !in(p, 0, 99) || !in(q, 0, 99)) {
            return -1;
        }
        return 10 * q > c * p ? 1 : 0;
    }

    int taxi(int s, int t, int h) {
        if (noSuit(s) || !in(t, 0, 99) || !in(h, 0, 999)) {
            return -1;
        }
        if (now.suits.get(s).state != 1) {
            return -3;
        }
        return now.guests.get(holder(s)).late * h > 10 * t ? 1 : 0;
    }

    int friday(int what) {
        if (!in(what, 0, 1)) {
            return -1;
        }
        List<Integer> pairs = new ArrayList<>();
        for (int a = 0; a < now.guests.size(); a++) {
            for (int b = a + 1; b < now.guests.size(); b++) {
                Guest one = now.guests.get(a);
                Guest other = now.guests.get(b);
                if (one.has != 9 && other.has != 9 && now.suits.get(one.has).fitsSize(other.size)
                    && now.suits.get(other.has).fitsSize(one.size)) {
                    pairs.add(10 * a + b);
                }
            }
        }
        return what == 0 ? pairs.size() : pairs.isEmpty() ? -4 : pairs.get(0);
    }

    int tight() {
        int bits = 0;
        for (int b = 0; b < now.guests.size(); b++) {
            Guest g = now.guests.get(b);
            bits |= g.has != 9 && !now.suits.get(g.has).fitsSize(g.size + 1) ? 1 << b : 0;
        }
        return bits;
    }

    // ---- stains, told days

    int forged(int d) {
        if (!in(d, 0, 7)) {
            return -1;
        }
        if (wantsRow(d) != 0) {
            return wantsRow(d);
        }
        int[] row = (int[]) shelves[d];
        if (row.length % 2 == 0 || row.length > 15) {
            return -13;
        }
        for (int i = 1; i < row.length; i += 2) {
            if (noSuit(row[i]) || noGuest(row[i + 1]) || fits(row[i], row[i + 1]) == 0) {
                return i / 2;
            }
        }
        return -4;
    }

    int stained(int d, int set, int what) {
        if (!in(d, 0, 7) || !in(set, 0, 127) || !in(what, 0, 1)) {
            return -1;
        }
        int first = forged(d);
        if (first != -4) {
            return first < 0 ? first : -13;
        }
        int[] row = (int[]) shelves[d];
        int many = 0;
        int least = -4;
        for (int b = now.guests.size() - 1; b >= 0; b--) {
            boolean all = true;
            for (int s = 0; s < 7; s++) {
                boolean had = (set >> s & 1) == 0;
                for (int i = 1; i < row.length; i += 2) {
                    had |= row[i] == s && row[i + 1] == b;
                }
                all &= had;
            }
            many += all ? 1 : 0;
            least = all ? b : least;
        }
        return what == 0 ? many : least;
    }

    int judge(int d) {
        if (!in(d, 0, 7)) {
            return -1;
        }
        if (wantsRow(d) != 0) {
            return wantsRow(d);
        }
        List<Integer> in = new ArrayList<>();
        in.add(Integer.bitCount(count(4)));
        for (int s = 0; s < now.suits.size(); s++) {
            if (now.suits.get(s).state == 2) {
                in.add(in.get(in.size() - 1) + 1);
            }
        }
        int[] row = (int[]) shelves[d];
        for (int i = 0; i + 1 < row.length; i++) {
            if (row[i + 1] != least(row[0]) && (i >= in.size() || in.get(i) != row[i + 1])) {
                return i;
            }
        }
        return -4;
    }

    int weeks(int n, int z, int what) {
        if (!in(n, 1, 20) || !in(what, 0, 1)) {
            return -1;
        }
        State real = now;
        int pence = 0;
        int none = 0;
        for (int week = 0; week < n; week++) {
            now = real.same();
            for (int b = 0; b < now.guests.size(); b++) {
                z = (int) (z * 1103515245L + 12345L);
                int draw = (int) ((z & 0x7fffffffL) / 65536) % 10;
                if (draw >= now.guests.get(b).absent && now.guests.get(b).has == 9) {
                    for (int s = 0; s < now.suits.size() && now.guests.get(b).has == 9; s++) {
                        hires(s, b);
                    }
                    none += now.guests.get(b).has == 9 ? 1 : 0;
                }
            }
            pence += now.pence - real.pence;
        }
        now = real;
        return what == 0 ? pence : none;
    }

    // ---- the image, what is told

    int image() {
        picture = now.same();
        return now.hour;
    }

    int restore() {
        if (picture == null) {
            return -3;
        }
        now = picture.same();
        return now.hour;
    }

    int count(int what) {
        int bits = 0;
        int worn = 0;
        for (int s = 0; s < now.suits.size(); s++) {
            bits |= now.suits.get(s).state == what - 4 ? 1 << s : 0;
            worn += now.suits.get(s).worn;
        }
        switch (what) {
            case 0: return now.suits.size();
            case 1: return now.guests.size();
            case 2: return now.pence;
            case 3: return now.hour;
            case 4: case 5: case 6: return bits;
            case 7: return worn;
            default: return -1;
        }
    }

    // ---- shelves

    int keep(int d, int what, int k, int figure) {
        if (!in(d, 0, 7) || !in(what, 0, 1) || what == 1 && (!in(k, 0, 7) || !in(figure, 0, 9))) {
            return -1;
        }
        shelves[d] = what == 0 ? null : new Garment(k, figure, 0, 0);
        return 0;
    }

    int row(int d, int sort, int n) {
        if (!in(d, 0, 7) || !in(sort, 0, 2) || n > 100) {
            return -1;
        }
        if (n < 0) {
            return -14;
        }
        int[] row = new int[n + 1];
        row[0] = sort;
        shelves[d] = row;
        return 0;
    }

    int put(int d, int i, int v) {
        if (!in(d, 0, 7)) {
            return -1;
        }
        if (wantsRow(d) != 0) {
            return wantsRow(d);
        }
        int[] row = (int[]) shelves[d];
        if (!in(i, 0, row.length - 2)) {
            return -13;
        }
        row[i + 1] = row[0] == 0 ? (byte) v : row[0] == 1 ? (short) v : v;
        return 0;
    }

    /** The element; 5000000001 if no such shelf, 5000000002 if no row or place. */
    long element(int d, int i) {
        if (!in(d, 0, 7)) {
            return 5000000001L;
        }
        if (wantsRow(d) != 0 || !in(i, 0, ((int[]) shelves[d]).length - 2)) {
            return 5000000002L;
        }
        return ((int[]) shelves[d])[i + 1];
    }

    int copy(int d, int i, int e, int j, int n) {
        if (!in(d, 0, 7) || !in(e, 0, 7)) {
            return -1;
        }
        if (shelves[d] == null || shelves[e] == null) {
            return -11;
        }
        if (wantsRow(d) != 0 || wantsRow(e) != 0 || ((int[]) shelves[d])[0] != ((int[]) shelves[e])[0]) {
            return -12;
        }
        int[] from = ((int[]) shelves[d]).clone();
        int[] to = (int[]) shelves[e];
        if (i < 0 || j < 0 || n < 0 || (long) i + n > from.length - 1 || (long) j + n > to.length - 1) {
            return -13;
        }
        for (int m = 1; m <= n; m++) {
            to[j + m] = from[i + m];
        }
        return n;
    }

    int cost(int d) {
        if (!in(d, 0, 7)) {
            return -1;
        }
        return wantsKind(d) != 0 ? wantsKind(d) : ((Garment) shelves[d]).cost();
    }

    int toss(int d) {
        if (!in(d, 0, 7)) {
            return -1;
        }
        if (wantsKind(d) != 0) {
            return wantsKind(d);
        }
        Garment g = (Garment) shelves[d];
        if (g.figure == 0 || g.kind == 3 || g.kind == 6) {
            return -15;
        }
        return g.kind == 4 ? 200 + g.cost() : g.kind == 1 || g.kind == 7 ? 100 + g.figure : g.figure;
    }
}
