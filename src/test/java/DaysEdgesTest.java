/** The edges of promises 29 to 35: stains, told days, weeks, THE IMAGE, counts. One test for each sentence that names one. */
public final class DaysEdgesTest {
    public static void main(String[] args) {
        stainedNoPairs();
        stainedSevenPairs();
        stainedSets();
        stainedTheLeast();
        stainedForgedEdges();
        forgedNoSuchOne();
        forgedDoesNotFit();
        forgedTheFirst();
        forgedLeastNumbers();
        judgeNothingTold();
        judgeNow();
        judgeBehindEachCleaning();
        judgeBehindTheLast();
        judgeLeastNumberIsSkipped();
        judgeHourNoMatter();
        judgeAHundred();
        weeksOneToTwenty();
        weeksDrawBelowAbsent();
        weeksDrawOfEach();
        weeksWrapAround();
        weeksLeastSuitThatCanBe();
        weeksHadNoneThen();
        weeksEachFromNow();
        imageOfNothing();
        imageTakenAgain();
        imageOfAllThatThereIs();
        imageLeavesShelves();
        counts();
        Check.end();
    }

    /** A ROW without elements: nobody had any SUIT. */
    private static void stainedNoPairs() {
        BackByNoonOnMonday x = new BackByNoonOnMonday();
        x.row(0, 0, 0);
        Check.due("nobody at all", x.stained(0, 0, 0), 0);
        Check.due("no least", x.stained(0, 0, 1), -4);
        Check.due("nobody had all", x.stained(0, 127, 0), 0);
        Check.due("none forged", x.forged(0), -4);
        x.books(10, 0, 0);
        x.books(10, 0, 0);
        Check.due("of no SUITS all", x.stained(0, 0, 0), 2);
        Check.due("the least", x.stained(0, 0, 1), 0);
        Check.due("nobody had suit 0", x.stained(0, 1, 0), 0);
        Check.due("no least of these", x.stained(0, 1, 1), -4);
    }

    private static BackByNoonOnMonday seven() {
        BackByNoonOnMonday x = new BackByNoonOnMonday();
        x.keep(7, 1, 0, 0);
        for (int i = 0; i < 7; i++) {
            x.buys(7, 10);
            x.books(10, 0, 0);
        }
        return x;
    }

    /** "(7 at most of these)". */
    private static void stainedSevenPairs() {
        for (int sort = 0; sort < 3; sort++) {
            BackByNoonOnMonday x = seven();
            Check.numbers(x, 0, sort, 0, 6, 1, 6, 2, 6, 3, 6, 4, 6, 5, 6, 6, 6);
            Check.due("one had all", x.stained(0, 127, 0), 1);
            Check.due("the last", x.stained(0, 127, 1), 6);
            Check.due("not forged", x.forged(0), -4);
            Check.numbers(x, 0, sort, 0, 6, 1, 6, 2, 6, 3, 6, 4, 6, 5, 6, 6, 5);
            Check.due("one is another's", x.stained(0, 127, 0), 0);
            Check.due("that one", x.stained(0, 64, 1), 5);
            Check.due("all but that", x.stained(0, 63, 1), 6);
            x.row(0, sort, 14);
            Check.due("seven pairs", x.stained(0, 1, 0), 1);
            x.row(0, sort, 15);
            Check.due("seven and a half", x.stained(0, 1, 0), -13);
            Check.due("seven and a half, forged", x.forged(0), -13);
            x.row(0, sort, 16);
            Check.due("eight", x.stained(0, 1, 0), -13);
            Check.due("eight, forged", x.forged(0), -13);
            x.row(0, sort, 1);
            Check.due("half a pair", x.stained(0, 1, 0), -13);
            x.row(0, sort, 2);
            Check.due("one pair", x.stained(0, 1, 0), 1);
        }
    }

    /** "a set (0 .. 127) of SUITS": none, all, such as there are not. */
    private static void stainedSets() {
        BackByNoonOnMonday x = Check.shopOf("s001000;s001000;b100000;b100000;b100000;");
        Check.numbers(x, 0, 0, 0, 1, 1, 1, 1, 2);
        Check.due("none of them", x.stained(0, 0, 0), 3);
        Check.due("suit 0", x.stained(0, 1, 0), 1);
        Check.due("suit 1", x.stained(0, 2, 0), 2);
        Check.due("both", x.stained(0, 3, 0), 1);
        Check.due("a suit that there is not", x.stained(0, 4, 0), 0);
        Check.due("and both", x.stained(0, 7, 0), 0);
        Check.due("all seven", x.stained(0, 127, 0), 0);
        Check.due("of all seven no least", x.stained(0, 127, 1), -4);
        Check.due("set 128", x.stained(0, 128, 0), -1);
        Check.due("set -1", x.stained(0, -1, 0), -1);
    }

    /** "the least; -4". */
    private static void stainedTheLeast() {
        BackByNoonOnMonday x = seven();
        Check.numbers(x, 0, 0, 0, 6, 0, 3, 0, 5, 0, 3);
        Check.due("three had it, one of them twice", x.stained(0, 1, 0), 3);
        Check.due("the least", x.stained(0, 1, 1), 3);
        x.put(0, 1, 0);
        Check.due("the first", x.stained(0, 1, 1), 0);
        Check.due("nobody", x.stained(0, 2, 1), -4);
    }

    /** "-13 (FORGED ...)": with the last pair, too, and whatever the set. */
    private static void stainedForgedEdges() {
        BackByNoonOnMonday x = seven();
        Check.numbers(x, 0, 0, 0, 0, 1, 1, 2, 2, 3, 3, 4, 4, 5, 5, 7, 6);
        Check.due("no suit 7", x.stained(0, 0, 0), -13);
        x.put(0, 12, 6);
        Check.due("suit 6", x.stained(0, 0, 0), 7);
        x.put(0, 13, 7);
        Check.due("no booking 7", x.stained(0, 0, 1), -13);
        x.put(0, 13, 6);
        Check.due("booking 6", x.stained(0, 64, 1), 6);
    }

    /** "no such SUIT, BOOKING": the first that there is not, to either side. */
    private static void forgedNoSuchOne() {
        for (int n = 1; n <= 7; n++) {
            BackByNoonOnMonday x = new BackByNoonOnMonday();
            x.keep(7, 1, 0, 0);
            for (int i = 0; i < n; i++) {
                x.buys(7, 0);
                x.books(0, 0, 0);
            }
            int[][] pairs = {{n - 1, n - 1, -4}, {n, 0, 0}, {0, n, 0}, {-1, 0, 0}, {0, -1, 0}, {n, n, 0}, {127, 0, 0}, {0, 9, 0}};
            for (int[] pair : pairs) {
                Check.numbers(x, 0, 0, pair[0], pair[1]);
                Check.due("pair " + pair[0] + " " + pair[1] + " of " + n, x.forged(0), pair[2]);
            }
        }
        BackByNoonOnMonday x = new BackByNoonOnMonday();
        x.row(0, 0, 2);
        Check.due("nobody at all", x.forged(0), 0);
        x.books(0, 0, 0);
        Check.due("no suit", x.forged(0), 0);
    }

    /** "or it does not FIT": whether it is IN, OUT or DIRTY does not matter. */
    private static void forgedDoesNotFit() {
        BackByNoonOnMonday x = Check.shopOf("s001000;s401000;b090000;b110000;b080000;b120000;b100000;");
        int[][] due = {{-4, -4, 0, 0, -4}, {0, 0, 0, 0, -4}};
        for (int s = 0; s < 2; s++) {
            for (int b = 0; b < 5; b++) {
                Check.numbers(x, 0, 1, s, b);
                Check.due("suit " + s + " of booking " + b, x.forged(0), due[s][b]);
            }
        }
        x.hires(0, 0);
        Check.numbers(x, 0, 1, 0, 1);
        Check.due("OUT to another", x.forged(0), -4);
        x.returns(0);
        Check.due("DIRTY", x.forged(0), -4);
    }

    /** "the first pair that can not be" "(0 first)". */
    private static void forgedTheFirst() {
        BackByNoonOnMonday x = seven();
        for (int pair = 0; pair < 7; pair++) {
            x.row(0, 2, 14);
            x.put(0, 2 * pair, 9);
            Check.due("the suit of pair " + pair, x.forged(0), pair);
            x.put(0, 13, 9);
            Check.due("and a later one", x.forged(0), pair);
            x.put(0, 2 * pair, 0);
            x.put(0, 13, 0);
            x.put(0, 2 * pair + 1, 9);
            Check.due("the booking of pair " + pair, x.forged(0), pair);
        }
    }

    /** The least number of a SORT is a number here as any other. */
    private static void forgedLeastNumbers() {
        int[] least = {-128, -32768, Integer.MIN_VALUE};
        for (int sort = 0; sort < 3; sort++) {
            BackByNoonOnMonday x = seven();
            Check.numbers(x, 0, sort, 0, 0, least[sort], 0);
            Check.due("as a suit", x.forged(0), 1);
            Check.numbers(x, 0, sort, 0, least[sort], 0, 0);
            Check.due("as a booking", x.forged(0), 0);
            Check.numbers(x, 0, sort, least[sort], least[sort]);
            Check.due("as both", x.stained(0, 0, 0), -13);
        }
    }

    /** So many SUITS IN, then so many DIRTY. */
    private static BackByNoonOnMonday inAndDirty(int in, int dirty) {
        BackByNoonOnMonday x = new BackByNoonOnMonday();
        x.keep(7, 1, 4, 0);
        x.books(10, 0, 0);
        for (int s = 0; s < in + dirty; s++) {
            x.buys(7, 10);
            if (s >= in) {
                x.hires(s, 0);
                x.returns(s);
            }
        }
        return x;
    }

    private static void judgeNothingTold() {
        for (int sort = 0; sort < 3; sort++) {
            BackByNoonOnMonday x = inAndDirty(2, 2);
            x.row(0, sort, 0);
            Check.due("nothing told", x.judge(0), -4);
            Check.due("nothing told of nothing", judged(new BackByNoonOnMonday(), sort), -4);
            Check.due("none told", judged(new BackByNoonOnMonday(), sort, 0), -4);
            Check.due("one told", judged(new BackByNoonOnMonday(), sort, 1), 0);
        }
    }

    private static int judged(BackByNoonOnMonday x, int sort, int... told) {
        Check.numbers(x, 0, sort, told);
        return x.judge(0);
    }

    /** "(place 0: now ...)". */
    private static void judgeNow() {
        for (int in = 0; in <= 7; in++) {
            BackByNoonOnMonday x = inAndDirty(in, 0);
            Check.due(in + " are IN", judged(x, 0, in), -4);
            Check.due("1 less", judged(x, 0, in - 1), 0);
            Check.due("1 more", judged(x, 0, in + 1), 0);
        }
        BackByNoonOnMonday x = Check.shopOf("s001000;s001000;s001000;b100000;b100000;h00;h11;r1;");
        Check.due("neither OUT nor DIRTY ones", judged(x, 0, 1, 2), -4);
        Check.due("the OUT one never comes", judged(x, 0, 1, 2, 3), 2);
    }

    /** "how many are IN behind CLEANING DIRTY ones one behind the other". */
    private static void judgeBehindEachCleaning() {
        BackByNoonOnMonday x = inAndDirty(2, 5);
        Check.due("all so", judged(x, 0, 2, 3, 4, 5, 6, 7), -4);
        Check.due("some of them", judged(x, 0, 2, 3), -4);
        for (int i = 0; i <= 5; i++) {
            int[] told = {2, 3, 4, 5, 6, 7};
            told[i]++;
            Check.due("1 more at " + i, judged(x, 0, told), i);
            told[i] -= 2;
            Check.due("1 less at " + i, judged(x, 0, told), i);
        }
        Check.due("the first of two", judged(x, 0, 2, 9, 4, 9), 1);
    }

    /** "(behind the last, too ...)": nothing is so there. */
    private static void judgeBehindTheLast() {
        for (int dirty = 0; dirty <= 3; dirty++) {
            BackByNoonOnMonday x = inAndDirty(1, dirty);
            for (int behind : new int[] {dirty, dirty + 1, dirty + 2, 0, -1}) {
                int[] told = new int[dirty + 2];
                for (int i = 0; i <= dirty; i++) {
                    told[i] = 1 + i;
                }
                told[dirty + 1] = behind;
                Check.due(behind + " behind the last", judged(x, 2, told), dirty + 1);
            }
        }
    }

    /** "the least number is skipped": behind the last, too; not that of another SORT. */
    private static void judgeLeastNumberIsSkipped() {
        int[] least = {-128, -32768, Integer.MIN_VALUE};
        for (int sort = 0; sort < 3; sort++) {
            BackByNoonOnMonday x = inAndDirty(1, 2);
            int skip = least[sort];
            Check.due("the first", judged(x, sort, skip, 2, 3), -4);
            Check.due("the last", judged(x, sort, 1, 2, skip), -4);
            Check.due("one not so behind it", judged(x, sort, skip, 1, 3), 1);
            Check.due("behind the last", judged(x, sort, 1, 2, 3, skip), -4);
            Check.due("behind that", judged(x, sort, 1, 2, 3, skip, 3), 4);
            Check.due("all", judged(x, sort, skip, skip, skip, skip, skip), -4);
            Check.due("1 more than the least", judged(x, sort, skip + 1), 0);
            if (sort > 0) {
                Check.due("the least of another", judged(x, sort, least[sort - 1]), 0);
            }
        }
    }

    /** "HOUR no matter": behind 999 hours, too. */
    private static void judgeHourNoMatter() {
        BackByNoonOnMonday x = Check.shopOf("s791000;s791000;b100000;h10;r1;");
        Check.due("nine times 13 hours", Check.told(x, "h00;r0;c0;".repeat(9)), 27);
        for (int i = 2; i <= 8; i++) {
            x.shop(7);
        }
        Check.due("four times", Check.told(x, "h00;r0;c0;".repeat(4)), 12);
        Check.due("hour", x.count(3), 988);
        Check.due("it can not be cleaned", x.cleans(1), -3);
        Check.due("but judged", judged(x, 0, 1, 2), -4);
        Check.due("and not so otherwise", judged(x, 0, 1, 1), 1);
    }

    private static void judgeAHundred() {
        BackByNoonOnMonday x = inAndDirty(0, 1);
        x.row(0, 2, 100);
        x.row(1, 2, 50);
        for (int i = 0; i < 50; i++) {
            x.put(1, i, Integer.MIN_VALUE);
        }
        x.copy(1, 0, 0, 0, 50);
        x.copy(1, 0, 0, 50, 50);
        Check.due("all skipped", x.judge(0), -4);
        x.put(0, 99, 1);
        Check.due("the last is not so", x.judge(0), 99);
        x.put(0, 1, 1);
        Check.due("that one is so", x.judge(0), 99);
        x.put(0, 0, 1);
        Check.due("but not now", x.judge(0), 0);
    }

    /** "n weeks (1 .. 20)". */
    private static void weeksOneToTwenty() {
        BackByNoonOnMonday x = Check.shopOf("s001000;b100000;b100000;");
        for (int n = 1; n <= 20; n++) {
            Check.due("pence of " + n, x.weeks(n, 0, 0), 10 * n);
            Check.due("without of " + n, x.weeks(n, 0, 1), n);
        }
        Check.due("none", x.weeks(0, 0, 0), -1);
        Check.due("21", x.weeks(21, 0, 0), -1);
        Check.due("nobody at all", new BackByNoonOnMonday().weeks(20, 5, 0), 0);
        Check.due("nobody without", new BackByNoonOnMonday().weeks(20, 5, 1), 0);
        x = new BackByNoonOnMonday();
        x.books(10, 0, 0);
        Check.due("no suit, no pence", x.weeks(20, 5, 0), 0);
        Check.due("no suit, all without", x.weeks(20, 5, 1), 20);
    }

    /** The DRAW below 10 of a seed, told once more with longs. */
    private static int draw(int z) {
        return (int) ((z & 0xffffffffL) % (1L << 31) / 65536 % 10);
    }

    private static int next(int z) {
        long wide = (z * 1103515245L + 12345) & 0xffffffffL;
        return (int) wide;
    }

    /** "it does not come, if that is below its ABSENT": as much is not below, 0 is below none of 0. */
    private static void weeksDrawBelowAbsent() {
        boolean[] seen = new boolean[10];
        for (int z = 0; z < 60; z++) {
            int drawn = draw(next(z));
            seen[drawn] = true;
            BackByNoonOnMonday x = new BackByNoonOnMonday();
            x.books(10, 0, 990 + drawn);
            Check.due("as much as ABSENT, seed " + z, x.weeks(1, z, 1), 1);
            if (drawn < 9) {
                x = new BackByNoonOnMonday();
                x.books(10, 0, 990 + drawn + 1);
                Check.due("1 below ABSENT, seed " + z, x.weeks(1, z, 1), 0);
            }
        }
        for (int drawn = 0; drawn < 10; drawn++) {
            Check.due("a draw of " + drawn, seen[drawn] ? 1 : 0, 1);
        }
    }

    /** "in each by BOOKINGS a DRAW": also of one that HAS a SUIT; the seed goes on from week to week. */
    private static void weeksDrawOfEach() {
        BackByNoonOnMonday x = Check.shopOf("s001000;b100005;b100005;b200005;h01;");
        for (int seed : new int[] {1, 2, 3, -1, 77777, Integer.MAX_VALUE, Integer.MIN_VALUE}) {
            for (int n = 1; n <= 20; n += 19) {
                int z = seed;
                int without = 0;
                for (int i = 0; i < 3 * n; i++) {
                    z = next(z);
                    without += draw(z) >= 5 && i % 3 != 1 ? 1 : 0;
                }
                Check.due(n + " weeks by seed " + seed, x.weeks(n, seed, 1), without);
                Check.due("no pence by seed " + seed, x.weeks(n, seed, 0), 0);
            }
        }
    }

    /** "(an int)", "(z without its sign's bit ...)": seeds that wrap around at once, and draws of a z below 0. */
    private static void weeksWrapAround() {
        int below = 0;
        for (int seed : new int[] {0, 1, -1, 2, 1 << 30, Integer.MAX_VALUE, Integer.MIN_VALUE, -12345, 1103515245, 65535}) {
            below += next(seed) < 0 ? 1 : 0;
            int drawn = draw(next(seed));
            int came = 0;
            for (int absent = 0; absent <= 9; absent++) {
                BackByNoonOnMonday x = new BackByNoonOnMonday();
                x.books(10, 0, absent);
                came += x.weeks(1, seed, 1);
            }
            Check.due("draw of seed " + seed, came, drawn + 1);
        }
        Check.due("some are below 0", below > 0 && below < 10 ? 1 : 0, 1);
        // By hand: of seed 0 z becomes 12345, over 65536 that is 0; of seed 1 it becomes 1103527590: 16838.
        BackByNoonOnMonday x = new BackByNoonOnMonday();
        x.books(10, 0, 1);
        Check.due("seed 0 draws 0", x.weeks(1, 0, 1), 0);
        x = new BackByNoonOnMonday();
        x.books(10, 0, 8);
        Check.due("seed 1 draws 8", x.weeks(1, 1, 1), 1);
        x = new BackByNoonOnMonday();
        x.books(10, 0, 9);
        Check.due("seed 1 draws no 9", x.weeks(1, 1, 1), 0);
    }

    /** "it is HIRED the least SUIT that can be": IN, one that FITS, none that went this week. */
    private static void weeksLeastSuitThatCanBe() {
        BackByNoonOnMonday x = Check.shopOf("s011000;s021500;s031000;s041000;s051000;b100000;b100000;h00;h31;r3;b100000;b100000;");
        // Suit 0 is OUT, 1 too far, 3 DIRTY: 2 and 4 go to bookings 1 and 2.
        Check.due("13 and 15", x.weeks(1, 9, 0), 28);
        Check.due("one without", x.weeks(1, 9, 1), 1);
        x = Check.shopOf("s091000;s001100;b110000;b090000;");
        Check.due("the least, though another is cheaper", x.weeks(1, 9, 0), 19);
        Check.due("and the second has none", x.weeks(1, 9, 1), 1);
    }

    /** "how many of those who came HAD none then": not who HAS one already. */
    private static void weeksHadNoneThen() {
        BackByNoonOnMonday x = Check.shopOf("s001000;b100000;h00;");
        Check.due("who HAS one", x.weeks(20, 3, 1), 0);
        Check.due("brings no more", x.weeks(20, 3, 0), 0);
        x.returns(0);
        Check.due("its suit is DIRTY", x.weeks(20, 3, 1), 20);
        x.cleans(0);
        Check.due("IN again", x.weeks(20, 3, 1), 0);
        Check.due("pence again", x.weeks(20, 3, 0), 200);
    }

    /** "each from now": a week's HIRED ones are IN for the next, and for what comes behind the call. */
    private static void weeksEachFromNow() {
        BackByNoonOnMonday x = Check.shopOf("s490099;s491000;b100000;");
        String before = Everything.of(x);
        Check.due("twenty times 48", x.weeks(20, 1, 0), 960);
        Check.same("weeks changed", Everything.of(x), before);
        x = new BackByNoonOnMonday();
        x.keep(0, 1, 4, 9);
        for (int i = 0; i < 7; i++) {
            x.buys(0, 10);
            x.books(10, 0, 0);
        }
        Check.due("seven of 48 each week", x.weeks(20, 1, 0), 6720);
        Check.due("nobody without", x.weeks(20, 1, 1), 0);
    }

    /** "-3 there is none"; an image of nothing is one. */
    private static void imageOfNothing() {
        BackByNoonOnMonday x = new BackByNoonOnMonday();
        Check.due("there is none", x.restore(), -3);
        Check.due("hour 0", x.image(), 0);
        Check.due("now there is", x.restore(), 0);
        x.keep(0, 1, 0, 0);
        for (int i = 0; i < 7; i++) {
            x.buys(0, 10);
            x.books(10, 0, 0);
            x.hires(i, i);
        }
        Check.due("restored", x.restore(), 0);
        for (int what = 0; what < 8; what++) {
            Check.due("count " + what + " of nothing", x.count(what), 0);
        }
        Check.due("no suit", x.suit(0, 0), -1);
        Check.due("no booking", x.booking(0, 0), -1);
        Check.due("the first again", x.buys(0, 20), 0);
        Check.due("the first booking again", x.books(20, 0, 0), 0);
        Check.due("is IN", x.suit(0, 4), 0);
        Check.due("is not WORN", x.suit(0, 3), 0);
        Check.due("HAS none", x.booking(0, 5), 9);
    }

    /** "THE IMAGE is taken": the later one is in place of the earlier; RESTORED, it stays. */
    private static void imageTakenAgain() {
        BackByNoonOnMonday x = Check.shopOf("s001000;b100000;");
        Check.due("the first", x.image(), 0);
        Check.due("three hours", Check.told(x, "h00;r0;c0;"), 3);
        Check.due("the second", x.image(), 3);
        Check.due("three hours more", Check.told(x, "h00;r0;c0;"), 3);
        Check.due("not the first", x.restore(), 3);
        Check.due("pence of the second", x.count(2), 10);
        x.hires(0, 0);
        Check.due("once more", x.restore(), 3);
        Check.due("as it was", x.count(2), 10);
        Check.due("IN as it was", x.count(4), 1);
    }

    /** "all that there is": seven SUITS in each STATE, seven BOOKINGS, PENCE, HOUR. */
    private static void imageOfAllThatThereIs() {
        BackByNoonOnMonday x = new BackByNoonOnMonday();
        for (int i = 0; i < 7; i++) {
            x.keep(i, 1, i + 1, 9 - i);
            x.buys(i, 10 + i);
            x.books(10 + i, i % 4, 123 * i);
            x.hires(i, i);
        }
        for (int i = 0; i < 5; i++) {
            x.returns(i);
        }
        x.cleans(0);
        x.cleans(1);
        String before = Everything.of(x);
        Check.due("hour", x.image(), 7);
        Check.told(x, "r5;r6;c2;c3;c4;c5;c6;h00;h11;h22;h33;h44;h55;h66;");
        x.keep(7, 0, 0, 0);
        Check.due("all OUT", x.count(5), 127);
        Check.due("restored", x.restore(), 7);
        Check.same("restored", Everything.of(x), before);
    }

    /** "when THE IMAGE is RESTORED, SHELVES stay as they are". */
    private static void imageLeavesShelves() {
        BackByNoonOnMonday x = new BackByNoonOnMonday();
        x.keep(0, 1, 1, 5);
        x.row(1, 2, 2);
        x.put(1, 1, 77);
        x.keep(2, 1, 4, 1);
        x.image();
        x.keep(0, 1, 2, 6);
        x.put(1, 1, 78);
        x.row(2, 0, 1);
        x.keep(3, 1, 0, 3);
        x.restore();
        Check.due("another kind stays", x.cost(0), 2);
        Check.due("an element stays", x.element(1, 1), 78);
        Check.due("a row in place of a kind stays", x.cost(2), -12);
        Check.due("what came stays", x.toss(3), 3);
        x.keep(0, 0, 0, 0);
        x.restore();
        Check.due("nothing stays nothing", x.cost(0), -11);
    }

    /** Each count with no, one and all seven SUITS; "-1 for others". */
    private static void counts() {
        BackByNoonOnMonday x = seven();
        int[] in = {7, 7, 0, 0, 127, 0, 0, 0};
        int[] out = {7, 7, 70, 0, 0, 127, 0, 7};
        int[] dirty = {7, 7, 70, 0, 0, 0, 127, 7};
        int[] back = {7, 7, 70, 21, 127, 0, 0, 7};
        for (int what = 0; what < 8; what++) {
            Check.due("all IN " + what, x.count(what), in[what]);
        }
        for (int i = 0; i < 7; i++) {
            x.hires(i, i);
            Check.due("IN bits", x.count(4), 127 & ~((2 << i) - 1));
            Check.due("OUT bits", x.count(5), (2 << i) - 1);
        }
        for (int what = 0; what < 8; what++) {
            Check.due("all OUT " + what, x.count(what), out[what]);
        }
        for (int i = 0; i < 7; i++) {
            x.returns(i);
        }
        for (int what = 0; what < 8; what++) {
            Check.due("all DIRTY " + what, x.count(what), dirty[what]);
        }
        for (int i = 0; i < 7; i++) {
            x.cleans(i);
        }
        for (int what = 0; what < 8; what++) {
            Check.due("all IN again " + what, x.count(what), back[what]);
        }
        Check.due("count 8", x.count(8), -1);
        Check.due("count -1", x.count(-1), -1);
        Check.due("all WORN", Check.shopOf("s000099;s000099;s000099;s000099;s000099;s000099;s000099;").count(7), 693);
    }
}
