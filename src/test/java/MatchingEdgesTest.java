/** The edges of promises 10 to 21: whom which. One test for each sentence that names one. */
public final class MatchingEdgesTest {
    private static final String SEVEN_SUITS = "s001000;s001000;s001000;s001000;s001000;s001000;s001000;";

    public static void main(String[] args) {
        emptyShop();
        noSuits();
        noBookings();
        noneIsInOrOpen();
        theLastOfSeven();
        servedFirstSuch();
        servedNoneLast();
        servedOfOneThatHas();
        servedFull();
        servedInEachOrder();
        servedAtOnce();
        leftOver();
        leftOverOfTheFirst();
        earnedAtOnce();
        earnedFull();
        alikeGroups();
        alikeKinds();
        alikeOfThoseServed();
        oneMoreSizes();
        oneMoreThanNow();
        oneMoreKindAndFigure();
        oneMoreThanSeven();
        grownInLeastTerms();
        grownTwentyAtMost();
        grownOfAsManyAsHaveNone();
        grownOfSeven();
        comeOrFewer();
        comeOfSeven();
        comeOfAllBookings();
        refuseAsMuch();
        refuseTheLeast();
        buyAtEachDistance();
        buyTheLeast();
        buyByHowMuchMore();
        buySizes();
        sellEarnedIsMost();
        sellMostWornThenLeast();
        sellNoneIsIn();
        shinesMoreOftenThanTheyLast();
        shinesAllSeven();
        Check.end();
    }

    private static BackByNoonOnMonday sevenBookings(int size) {
        BackByNoonOnMonday x = new BackByNoonOnMonday();
        for (int b = 0; b < 7; b++) {
            x.books(size, 0, 0);
        }
        return x;
    }

    /** No SUITS, no BOOKINGS. */
    private static void emptyShop() {
        BackByNoonOnMonday x = new BackByNoonOnMonday();
        Check.due("served", x.served(-1), 0);
        Check.due("served of 0", x.served(0), -1);
        Check.due("left over", x.leftOver(), 0);
        Check.due("earned", x.earned(), 0);
        Check.due("alike", x.alike(), 0);
        Check.due("one more", x.oneMore(), -4);
        Check.due("grown above", x.grown(0), 1);
        Check.due("grown below", x.grown(1), 1);
        for (int k = 0; k <= 7; k++) {
            Check.due("come above", x.come(k, 0), 1);
            Check.due("come below", x.come(k, 1), 1);
        }
        Check.due("refuse", x.refuse(), -4);
        Check.due("buy", x.buy(10, 0), 0);
        Check.due("buy, more", x.buy(10, 1), 0);
        Check.due("sell", x.sell(), -4);
        Check.due("shines", x.shines(), 0);
    }

    private static void noSuits() {
        BackByNoonOnMonday x = sevenBookings(10);
        Check.due("served", x.served(-1), 0);
        Check.due("served of the first", x.served(0), 9);
        Check.due("served of the last", x.served(6), 9);
        Check.due("left over", x.leftOver(), 0);
        Check.due("earned", x.earned(), 0);
        Check.due("alike", x.alike(), 0);
        Check.due("one more", x.oneMore(), 9);
        Check.due("grown", x.grown(0), 0);
        Check.due("grown below", x.grown(1), 1);
        Check.due("refuse the first", x.refuse(), 0);
        Check.due("buy", x.buy(10, 0), 4);
        Check.due("sell", x.sell(), -4);
    }

    private static void noBookings() {
        BackByNoonOnMonday x = Check.shopOf(SEVEN_SUITS);
        Check.due("served", x.served(-1), 0);
        Check.due("left over", x.leftOver(), 127);
        Check.due("earned", x.earned(), 0);
        Check.due("alike", x.alike(), 0);
        Check.due("one more", x.oneMore(), -4);
        Check.due("grown", x.grown(0), 1);
        Check.due("refuse", x.refuse(), -4);
        Check.due("buy", x.buy(10, 0), 0);
        Check.due("buy, more", x.buy(10, 1), 0);
        Check.due("sell", x.sell(), 0);
    }

    /** "Of all SUITS that are IN and BOOKINGS that HAVE none": neither OUT ones, nor DIRTY ones, nor those that HAVE. */
    private static void noneIsInOrOpen() {
        BackByNoonOnMonday x = Check.shopOf("s001000;s001000;b101000;h00;");
        Check.due("none open", x.served(-1), 0);
        Check.due("one IN is left over", x.leftOver(), 2);
        Check.due("none open earns", x.earned(), 0);
        Check.due("none open alike", x.alike(), 0);
        Check.due("none open, one more", x.oneMore(), -4);
        Check.due("none open, refuse", x.refuse(), -4);
        Check.due("none open, buy", x.buy(10, 1), 0);
        x = Check.shopOf("s001000;b101000;b101000;h00;");
        Check.due("none IN", x.served(-1), 0);
        Check.due("none IN for it", x.served(1), 9);
        Check.due("none IN is left over", x.leftOver(), 0);
        Check.due("none IN earns", x.earned(), 0);
        Check.due("none IN alike", x.alike(), 0);
        Check.due("none IN, sell", x.sell(), -4);
        x.returns(0);
        Check.due("DIRTY", x.served(-1), 0);
        Check.due("DIRTY for it", x.served(0), 9);
        Check.due("DIRTY is left over", x.leftOver(), 0);
        Check.due("DIRTY earns", x.earned(), 0);
        Check.due("DIRTY alike", x.alike(), 0);
        Check.due("DIRTY, sell", x.sell(), -4);
        x.cleans(0);
        Check.due("IN", x.served(-1), 1);
    }

    /** Only SUIT 6 and BOOKING 6 FIT: the last of each count as any other. */
    private static void theLastOfSeven() {
        BackByNoonOnMonday x = Check.shopOf("s000000;s000000;s000000;s000000;s000000;s000000;s452007;");
        for (int b = 0; b < 6; b++) {
            x.books(10, 3, 0);
        }
        x.books(20, 3, 0);
        Check.due("fits", x.fits(6, 6), 1);
        Check.due("served", x.served(-1), 1);
        Check.due("the last has the last", x.served(6), 6);
        Check.due("the last but one has none", x.served(5), 9);
        Check.due("left over", x.leftOver(), 63);
        Check.due("earned", x.earned(), 40);
        Check.due("alike", x.alike(), 1);
        Check.due("one more", x.oneMore(), 9);
        Check.due("refuse", x.refuse(), 0);
        Check.due("sell the least of the others", x.sell(), 0);
        Check.due("is hired", x.hires(6, 6), 40);
        Check.due("has it", x.booking(6, 5), 6);
        Check.due("is tight", x.tight(), 64);
        Check.due("is OUT", x.count(5), 64);
        Check.due("brought back", x.returns(6), 6);
        Check.due("is DIRTY", x.count(6), 64);
        Check.due("cleaned", x.cleans(6), 8);
    }

    /** "the SUIT of the i-th by the first such (0 the least SUIT, and so on; ...)". */
    private static void servedFirstSuch() {
        BackByNoonOnMonday x = Check.shopOf("s001000;s001000;s001000;b100000;b100000;");
        Check.due("the least suit first", x.served(0), 0);
        Check.due("then the next", x.served(1), 1);
        x = Check.shopOf("s001000;s001100;s001200;b110000;b100000;b090000;");
        Check.due("three", x.served(-1), 3);
        Check.due("the first, not the least that fits it", x.served(0), 2);
        Check.due("the second", x.served(1), 1);
        Check.due("the third", x.served(2), 0);
        x = Check.shopOf("s001200;s001000;b100000;b110000;");
        Check.due("the first can have suit 1 alone", x.served(0), 1);
        Check.due("the second has the other", x.served(1), 0);
    }

    /** "none last: 9": an earlier booking is served ahead of a later one, if as many are. */
    private static void servedNoneLast() {
        BackByNoonOnMonday x = Check.shopOf("s001000;b110000;b100000;b090000;");
        Check.due("one", x.served(-1), 1);
        Check.due("the first", x.served(0), 0);
        Check.due("not the second", x.served(1), 9);
        Check.due("not the third", x.served(2), 9);
        x = Check.shopOf("s001000;s001200;b140000;b110000;b120000;b100000;");
        Check.due("two", x.served(-1), 2);
        Check.due("none fits the first", x.served(0), 9);
        Check.due("the second has the least", x.served(1), 0);
        Check.due("the third", x.served(2), 1);
        Check.due("none for the fourth", x.served(3), 9);
    }

    private static void servedOfOneThatHas() {
        BackByNoonOnMonday x = Check.shopOf("s001000;s001000;b100000;b100000;h10;");
        Check.due("it has no part", x.served(0), 9);
        Check.due("the other", x.served(1), 0);
        Check.due("one", x.served(-1), 1);
    }

    /** Seven SUITS and seven BOOKINGS in a chain: each can have its own or the next one's. */
    private static void servedFull() {
        BackByNoonOnMonday x = Check.shopOf("s000100;s000300;s000500;s000700;s000900;s001100;s001300;");
        for (int size = 2; size <= 14; size += 2) {
            x.books(size, 0, 0);
        }
        Check.due("seven", x.served(-1), 7);
        for (int b = 0; b < 7; b++) {
            Check.due("its own", x.served(b), b);
        }
        Check.due("no booking 7", x.served(7), -1);
        Check.due("none is left over", x.leftOver(), 0);
        x = Check.shopOf("s001500;s001300;s001100;s000900;s000700;s000500;s000300;");
        for (int size = 2; size <= 14; size += 2) {
            x.books(size, 0, 0);
        }
        for (int b = 0; b < 7; b++) {
            Check.due("the only one left for it", x.served(b), 6 - b);
        }
    }

    /** The only way for all seven, in whichever order the SUITS have come: each moves those before it on. */
    private static void servedInEachOrder() {
        for (int order = 0; order < 5040; order++) {
            BackByNoonOnMonday x = new BackByNoonOnMonday();
            x.keep(0, 1, 0, 0);
            int[] suitOfSize = new int[13];
            int rest = order;
            int left = 127;
            for (int s = 0; s < 7; s++) {
                int size = 2 * bitAt(left, rest % (7 - s));
                rest /= 7 - s;
                left &= ~(1 << size / 2);
                suitOfSize[size] = x.buys(0, size);
                x.books(2 * s + 1, 0, 0);
            }
            Check.due("all, order " + order, x.served(-1), 7);
            for (int b = 0; b < 7; b++) {
                Check.due("booking " + b + ", order " + order, x.served(b), suitOfSize[2 * b]);
            }
            Check.due("earned, order " + order, x.earned(), 70);
            Check.due("refuse, order " + order, x.refuse(), -4);
            Check.due("sell, order " + order, x.sell(), 0);
        }
    }

    /** "at once": for the second SUIT the first moves on, for the third it does not a second time. */
    private static void servedAtOnce() {
        BackByNoonOnMonday x = Check.shopOf("s591000;s000900;s000900;b100000;b130000;b140000;");
        Check.due("two of three", x.served(-1), 2);
        Check.due("one of 9 for the first", x.served(0), 1);
        Check.due("the other moves on", x.served(1), 0);
        Check.due("none is left for the third", x.served(2), 9);
        Check.due("earned by the two", x.earned(), 36);
    }

    /** The place of the n-th bit that is set, 0 the first. */
    private static int bitAt(int bits, int n) {
        int place = Integer.numberOfTrailingZeros(bits);
        return n == 0 ? place : bitAt(bits & ~(1 << place), n - 1);
    }

    /** "LEFT OVER: SUITS (bits) that no BOOKING has by the first SERVED". */
    private static void leftOver() {
        BackByNoonOnMonday x = Check.shopOf("s001000;s001000;s001000;b100000;");
        Check.due("all but the least", x.leftOver(), 6);
        x = Check.shopOf("s000000;s001000;s000000;b100000;b100000;");
        Check.due("those that fit none", x.leftOver(), 5);
        x = Check.shopOf("s001000;b100000;");
        Check.due("none", x.leftOver(), 0);
        x = Check.shopOf("s001000;s001000;s001000;b100000;b100000;h00;h11;r1;");
        Check.due("neither OUT nor DIRTY ones", x.leftOver(), 0);
    }

    private static void leftOverOfTheFirst() {
        BackByNoonOnMonday x = Check.shopOf("s001000;s001100;s001200;b110000;b120000;");
        Check.due("the first has 0, the second 1", x.leftOver(), 4);
        x = Check.shopOf("s001000;s001200;s001000;b110000;b090000;");
        Check.due("the first has 0, the second 2", x.leftOver(), 2);
    }

    /** "the most PRICES together that can be HIRED at once so": a SUIT once, a BOOKING once. */
    private static void earnedAtOnce() {
        BackByNoonOnMonday x = Check.shopOf("s091000;b100000;b100000;");
        Check.due("one suit, two bookings", x.earned(), 19);
        x = Check.shopOf("s001000;s091000;b100000;");
        Check.due("two suits, one booking: the dearer", x.earned(), 19);
        x = Check.shopOf("s091000;s001000;b100000;");
        Check.due("the dearer, though ahead", x.earned(), 19);
        x = Check.shopOf("s001000;s001000;s401200;b110000;b110000;b120000;");
        Check.due("all three", x.earned(), 50);
        x = Check.shopOf("s021000;s011000;s001200;b100000;b110000;");
        Check.due("10 with 12, not 11", x.earned(), 23);
    }

    private static void earnedFull() {
        BackByNoonOnMonday x = Check.shopOf("s491000;s491000;s491000;s491000;s491000;s491000;s491000;");
        for (int b = 0; b < 7; b++) {
            Check.due("earned by " + b, x.earned(), 48 * b);
            x.books(10, 0, 0);
        }
        Check.due("earned by seven", x.earned(), 336);
    }

    /** "all of one GROUP (1 .. 3) that are SERVED must have SUITS of one KIND": 0 is none. */
    private static void alikeGroups() {
        for (int group = 0; group <= 3; group++) {
            BackByNoonOnMonday x = Check.shopOf("s001000;s101000;");
            x.books(10, group, 0);
            x.books(10, group, 0);
            Check.due("two kinds in group " + group, x.alike(), group == 0 ? 2 : 1);
            Check.due("served no matter the group", x.served(-1), 2);
        }
        BackByNoonOnMonday x = Check.shopOf("s001000;s101000;s201000;s301000;b100000;b101000;b102000;b103000;");
        Check.due("one of each group", x.alike(), 4);
        x = Check.shopOf("s001000;s001000;s001000;s001000;b100000;b101000;b102000;b103000;");
        Check.due("one KIND for several groups", x.alike(), 4);
        x = Check.shopOf("s001000;s101000;s201000;b101000;b102000;b102000;");
        Check.due("a second of the group has none", x.alike(), 2);
    }

    /** "any one a GROUP": each KIND may be it, the first and the last, too. */
    private static void alikeKinds() {
        for (int k = 0; k < 8; k++) {
            BackByNoonOnMonday x = new BackByNoonOnMonday();
            x.keep(0, 1, k, 1);
            x.buys(0, 10);
            x.buys(0, 10);
            x.keep(0, 1, (k + 1) % 8, 1);
            x.buys(0, 10);
            x.books(10, 1, 0);
            x.books(10, 1, 0);
            x.books(10, 1, 0);
            Check.due("two of KIND " + k, x.alike(), 2);
            x.keep(0, 1, k, 9);
            x.buys(0, 10);
            Check.due("of any FIGURE", x.alike(), 3);
        }
        for (int g = 1; g <= 3; g++) {
            for (int k = 0; k < 8; k++) {
                BackByNoonOnMonday x = new BackByNoonOnMonday();
                x.keep(0, 1, k, 0);
                x.buys(0, 10);
                x.buys(0, 10);
                x.books(10, g, 0);
                x.books(10, g, 0);
                Check.due("group " + g + " in KIND " + k, x.alike(), 2);
            }
        }
    }

    /** "that are SERVED": one of the GROUP that HAS another KIND, or is not SERVED, binds none. */
    private static void alikeOfThoseServed() {
        BackByNoonOnMonday x = Check.shopOf("s001000;s101000;s101000;b101000;b101000;b101000;h00;");
        Check.due("who HAS one binds none", x.alike(), 2);
        x = Check.shopOf("s001000;s101000;s102000;b101000;b201000;b051000;");
        Check.due("who is not served binds none", x.alike(), 2);
    }

    /** "the SIZE (0 .. 20) of which one SUIT more would serve most ..., of several the least". */
    private static void oneMoreSizes() {
        for (int size = 0; size <= 20; size++) {
            BackByNoonOnMonday x = new BackByNoonOnMonday();
            x.books(size, 0, 0);
            Check.due("for a booking of " + size, x.oneMore(), size == 0 ? 0 : size - 1);
        }
        BackByNoonOnMonday x = Check.shopOf("b200000;b150000;");
        Check.due("the least of several", x.oneMore(), 14);
    }

    /** "more than now": -4 if none would. */
    private static void oneMoreThanNow() {
        BackByNoonOnMonday x = Check.shopOf("s001000;s000000;b100000;");
        Check.due("all are served", x.oneMore(), -4);
        x.books(10, 0, 0);
        Check.due("one is not", x.oneMore(), 9);
        x.hires(0, 0);
        Check.due("one has it", x.oneMore(), 9);
        x.keep(0, 1, 0, 0);
        x.buys(0, 10);
        Check.due("all are served again", x.oneMore(), -4);
    }

    /** "(KIND 0, FIGURE 0)": it GIVES 1. */
    private static void oneMoreKindAndFigure() {
        BackByNoonOnMonday x = Check.shopOf("s501400;b100000;b180000;");
        // The STRETCH one goes to either; one more serves the other: from 9 on.
        Check.due("one off", x.oneMore(), 9);
        x = Check.shopOf("s401000;b110000;b100000;b100000;");
        Check.due("at 9 for a 10", x.oneMore(), 9);
    }

    /** "SUITS (7 at most)": the eighth is only thought of. */
    private static void oneMoreThanSeven() {
        BackByNoonOnMonday x = Check.shopOf(SEVEN_SUITS + "b200000;");
        Check.due("an eighth", x.oneMore(), 19);
        Check.due("has not come", x.count(0), 7);
        x = sevenBookings(10);
        x.keep(0, 1, 0, 0);
        for (int s = 0; s < 6; s++) {
            x.buys(0, 10);
        }
        Check.due("for the seventh", x.oneMore(), 9);
        x.buys(0, 10);
        Check.due("no eighth booking", x.oneMore(), -4);
    }

    private static void odds(String name, long above, long below, long dueAbove, long dueBelow) {
        Check.due(name + ", above", above, dueAbove);
        Check.due(name + ", below", below, dueBelow);
    }

    /** "a fraction in least terms": 0 is 0 by 1, what is sure 1 by 1. */
    private static void grownInLeastTerms() {
        long[][] due = {{1, 1}, {9, 10}, {4, 5}, {7, 10}, {3, 5}, {1, 2}, {2, 5}, {3, 10}, {1, 5}, {1, 10}};
        for (int grows = 0; grows <= 9; grows++) {
            BackByNoonOnMonday x = Check.shopOf("s401000;");
            x.books(10, 0, 100 * grows + 99);
            odds("stays the same, GROWS " + grows, x.grown(0), x.grown(1), due[grows][0], due[grows][1]);
            x = Check.shopOf("s401100;");
            x.books(10, 0, 100 * grows + 99);
            long[] grown = grows == 0 ? new long[] {0, 1} : due[10 - grows];
            odds("grows, GROWS " + grows, x.grown(0), x.grown(1), grown[0], grown[1]);
        }
        BackByNoonOnMonday x = Check.shopOf("s001000;b100999;");
        odds("fits in either case", x.grown(0), x.grown(1), 1, 1);
        x = Check.shopOf("s001000;b130999;");
        odds("fits in no case", x.grown(0), x.grown(1), 0, 1);
        x = Check.shopOf("s401000;s401000;b100500;b100600;");
        odds("by itself each", x.grown(0), x.grown(1), 1, 5);
    }

    /** "(20 at most)". */
    private static void grownTwentyAtMost() {
        BackByNoonOnMonday x = Check.shopOf("s402000;b200900;");
        odds("20 stays 20", x.grown(0), x.grown(1), 1, 1);
        x = Check.shopOf("s402000;b190900;");
        odds("19 becomes 20", x.grown(0), x.grown(1), 9, 10);
        x = Check.shopOf("s001900;b200900;");
        odds("20 for a suit of 19", x.grown(0), x.grown(1), 1, 1);
        x = Check.shopOf("s001800;b190900;");
        odds("19 for a suit of 18", x.grown(0), x.grown(1), 1, 10);
        x = Check.shopOf("s400100;b000900;");
        odds("0 becomes 1", x.grown(0), x.grown(1), 9, 10);
    }

    /** "how likely as many as HAVE none can all be SERVED". */
    private static void grownOfAsManyAsHaveNone() {
        BackByNoonOnMonday x = Check.shopOf("s401000;s401000;b100500;b100500;");
        odds("two", x.grown(0), x.grown(1), 1, 4);
        x.hires(0, 0);
        odds("who HAS one never minds", x.grown(0), x.grown(1), 1, 2);
        x.hires(1, 1);
        odds("none open", x.grown(0), x.grown(1), 1, 1);
        x.returns(0);
        odds("its suit is DIRTY", x.grown(0), x.grown(1), 0, 1);
        x = Check.shopOf("s001000;b100000;b100000;");
        odds("more than suits", x.grown(0), x.grown(1), 0, 1);
    }

    /** Seven, each by itself: the greatest number below the line. */
    private static void grownOfSeven() {
        BackByNoonOnMonday x = Check.shopOf("s401000;s401000;s401000;s401000;s401000;s401000;s401000;");
        for (int b = 0; b < 7; b++) {
            x.books(10, 0, 100);
        }
        odds("none grows", x.grown(0), x.grown(1), 4782969, 10000000);
        x = Check.shopOf("s401000;s401000;s401000;s401000;s401000;s401000;s401000;");
        for (int b = 0; b < 7; b++) {
            x.books(9, 0, 100);
        }
        odds("all grow", x.grown(0), x.grown(1), 1, 10000000);
        x = Check.shopOf("s401000;s401000;s401000;s401000;s401000;s401000;s001100;");
        for (int b = 0; b < 7; b++) {
            x.books(10, 0, 100);
        }
        // None grows, or one of the seven does, who has suit 6: 9^7 and 7 times 9^6.
        odds("one at most grows", x.grown(0), x.grown(1), (4782969 + 7 * 531441) / 16, 625000);
    }

    /** "how likely k (0 .. 7) or fewer come". */
    private static void comeOrFewer() {
        BackByNoonOnMonday x = Check.shopOf("b000005;b000005;b000005;");
        long[][] due = {{1, 8}, {1, 2}, {7, 8}, {1, 1}, {1, 1}, {1, 1}, {1, 1}, {1, 1}};
        for (int k = 0; k <= 7; k++) {
            odds("come " + k, x.come(k, 0), x.come(k, 1), due[k][0], due[k][1]);
        }
        x = Check.shopOf("b000000;b000000;");
        odds("one or fewer, of two who do", x.come(1, 0), x.come(1, 1), 0, 1);
        odds("two or fewer", x.come(2, 0), x.come(2, 1), 1, 1);
        long[][] absent = {{0, 1}, {1, 10}, {1, 5}, {3, 10}, {2, 5}, {1, 2}, {3, 5}, {7, 10}, {4, 5}, {9, 10}};
        for (int tenths = 0; tenths <= 9; tenths++) {
            x = new BackByNoonOnMonday();
            x.books(0, 0, 990 + tenths);
            odds("ABSENT " + tenths, x.come(0, 0), x.come(0, 1), absent[tenths][0], absent[tenths][1]);
        }
    }

    private static void comeOfSeven() {
        BackByNoonOnMonday x = new BackByNoonOnMonday();
        for (int b = 0; b < 7; b++) {
            x.books(0, 0, 9);
        }
        odds("none comes", x.come(0, 0), x.come(0, 1), 4782969, 10000000);
        odds("not all seven", x.come(6, 0), x.come(6, 1), 9999999, 10000000);
        odds("seven or fewer", x.come(7, 0), x.come(7, 1), 1, 1);
        odds("one or fewer", x.come(1, 0), x.come(1, 1), (4782969 + 7 * 531441) / 16, 625000);
    }

    /** "each BOOKING is ABSENT with those odds": those that HAVE a SUIT, too. */
    private static void comeOfAllBookings() {
        BackByNoonOnMonday x = Check.shopOf("s001000;b100003;b100000;");
        odds("ahead", x.come(1, 0), x.come(1, 1), 3, 10);
        x.hires(0, 0);
        odds("behind", x.come(1, 0), x.come(1, 1), 3, 10);
    }

    /** "without which EARNED is as much": by a penny less it is not. */
    private static void refuseAsMuch() {
        BackByNoonOnMonday x = Check.shopOf("s011000;s001200;b100000;b110000;b120000;");
        Check.due("10 has another in its place", x.refuse(), 0);
        x = Check.shopOf("s011000;s001200;b100000;b120000;");
        Check.due("each is needed", x.refuse(), -4);
        x = Check.shopOf("s600000;b000000;");
        Check.due("four pence are less, too", x.refuse(), -4);
        x = Check.shopOf("s011000;s001200;b090000;b110000;b120000;");
        Check.due("9 can be done without", x.refuse(), 0);
        x = Check.shopOf("s021000;s401100;b110000;b100000;b100000;");
        Check.due("11 can not", x.refuse(), 1);
    }

    /** "(that HAS none) ..., of several the least; -4". */
    private static void refuseTheLeast() {
        BackByNoonOnMonday x = sevenBookings(10);
        Check.due("all may go", x.refuse(), 0);
        x.keep(0, 1, 0, 0);
        x.buys(0, 10);
        x.hires(0, 0);
        Check.due("the first HAS one", x.refuse(), 1);
        x = Check.shopOf("s001000;s001000;b100000;b100000;h00;h11;");
        Check.due("all HAVE one", x.refuse(), -4);
        x = Check.shopOf("s401000;s401100;s401200;b100000;b110000;b120000;b200000;");
        Check.due("the last alone", x.refuse(), 3);
    }

    /** KINDS of FIGURE 5: SILK 40 (0 apart), VELVET 23 (1), STRETCH 18 (4), none farther. */
    private static void buyAtEachDistance() {
        int[] kind = {4, 7, 5, 5, 5, 0, 0};
        int[] more = {40, 23, 18, 18, 18, 0, 0};
        for (int apart = 0; apart <= 6; apart++) {
            BackByNoonOnMonday x = Check.shopOf("b100000;");
            Check.due("KIND, " + apart + " less", x.buy(10 - apart, 0), kind[apart]);
            Check.due("more, " + apart + " less", x.buy(10 - apart, 1), more[apart]);
            Check.due("KIND, " + apart + " more", x.buy(10 + apart, 0), kind[apart]);
            Check.due("more, " + apart + " more", x.buy(10 + apart, 1), more[apart]);
        }
    }

    /** "of several the least": KIND 0, if none brings more. */
    private static void buyTheLeast() {
        BackByNoonOnMonday x = Check.shopOf("s001000;");
        Check.due("nobody", x.buy(10, 0), 0);
        x = Check.shopOf("s491000;b100000;");
        Check.due("40 are fewer than 48", x.buy(10, 0), 0);
        Check.due("no more", x.buy(10, 1), 0);
        x = Check.shopOf("s451000;b100000;");
        Check.due("40 are as many as 40", x.buy(10, 0), 0);
        Check.due("no more than these", x.buy(10, 1), 0);
        x = Check.shopOf("s441000;b100000;");
        Check.due("40 are more than 38", x.buy(10, 0), 4);
        Check.due("by 2", x.buy(10, 1), 2);
    }

    private static void buyByHowMuchMore() {
        BackByNoonOnMonday x = Check.shopOf("s001000;b100000;b110000;");
        Check.due("SILK for the first, the SUIT moves on", x.buy(10, 1), 40);
        Check.due("its KIND", x.buy(10, 0), 4);
        x.hires(0, 0);
        Check.due("VELVET for 11", x.buy(10, 0), 7);
        Check.due("23 more", x.buy(10, 1), 23);
        Check.due("PENCE no matter", x.count(2), 10);
        Check.due("it is not bought", x.count(0), 1);
    }

    /** "BUY a SIZE": 0 and 20 are told, too, with seven SUITS as well. */
    private static void buySizes() {
        BackByNoonOnMonday x = Check.shopOf(SEVEN_SUITS);
        x.books(0, 0, 0);
        Check.due("size 0", x.buy(0, 0), 4);
        Check.due("size 0, more", x.buy(0, 1), 40);
        Check.due("size 20 for 0", x.buy(20, 1), 0);
        x.books(20, 0, 0);
        Check.due("size 20", x.buy(20, 0), 4);
        Check.due("size 20, more", x.buy(20, 1), 40);
        Check.due("size 4", x.buy(4, 0), 5);
        Check.due("size 16", x.buy(16, 0), 5);
        Check.due("size 5", x.buy(5, 1), 0);
        Check.due("size 15", x.buy(15, 1), 0);
    }

    /** "the SUIT that is IN without which EARNED is most". */
    private static void sellEarnedIsMost() {
        BackByNoonOnMonday x = Check.shopOf("s011000;s001000;s021000;b100000;b100000;b100000;");
        Check.due("10 of 11, 10, 12", x.sell(), 1);
        x.books(10, 0, 0);
        Check.due("10 still", x.sell(), 1);
        x = Check.shopOf("s011099;s001000;b100000;");
        Check.due("who earns nothing", x.sell(), 1);
        x = Check.shopOf("s600000;s490000;b000000;b000000;");
        Check.due("four pence of 52", x.sell(), 0);
    }

    /** "of several the most WORN, then least". */
    private static void sellMostWornThenLeast() {
        BackByNoonOnMonday x = Check.shopOf("s000000;s000000;s000000;");
        Check.due("the least", x.sell(), 0);
        x = Check.shopOf("s000001;s000002;s000002;s000001;");
        Check.due("most worn, then least", x.sell(), 1);
        x = Check.shopOf("s000000;s000000;s000000;s000000;s000000;s000000;s000099;");
        Check.due("the last, worn 99", x.sell(), 6);
        x = Check.shopOf("s000050;s000049;s000050;b000000;");
        Check.due("50, 49, 50", x.sell(), 0);
    }

    /** "-4 none is IN". */
    private static void sellNoneIsIn() {
        BackByNoonOnMonday x = Check.shopOf("s001099;s001000;b100000;b100000;");
        Check.due("the most worn", x.sell(), 0);
        x.hires(0, 0);
        Check.due("the other", x.sell(), 1);
        x.hires(1, 1);
        Check.due("both OUT", x.sell(), -4);
        x.returns(0);
        Check.due("OUT and DIRTY", x.sell(), -4);
        x.cleans(0);
        Check.due("IN again", x.sell(), 0);
    }

    /** "SUITS (bits) WORN more often than they LAST": not as often. */
    private static void shinesMoreOftenThanTheyLast() {
        for (int k = 0; k < 8; k++) {
            for (int figure = 0; figure <= 9; figure += 3) {
                int lasts = k == 4 ? (20 + figure) / 2 : k == 6 ? 5 + figure : 20 + figure;
                BackByNoonOnMonday x = new BackByNoonOnMonday();
                String head = "s" + k + figure + "10";
                Check.told(x, head + lasts / 10 + lasts % 10 + ";" + head + (lasts + 1) / 10 + (lasts + 1) % 10 + ";");
                Check.due("shines, KIND " + k + " FIGURE " + figure, x.shines(), 2);
                x.books(10, 0, 0);
                x.hires(0, 0);
                Check.due("one time more", x.shines(), 3);
                x.returns(0);
                Check.due("DIRTY, too", x.shines(), 3);
            }
        }
    }

    private static void shinesAllSeven() {
        BackByNoonOnMonday x = Check.shopOf("s001099;s191030;s791030;s301099;s491015;s501099;s601006;");
        Check.due("all", x.shines(), 127);
        x = Check.shopOf(SEVEN_SUITS);
        Check.due("none", x.shines(), 0);
    }
}
