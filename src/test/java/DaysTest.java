/** Promises 29 to 35: stained, forged, judge, weeks, image, restore, count. */
public final class DaysTest {
    public static void main(String[] args) {
        forged();
        stained();
        judge();
        weeks();
        weeksSeeds();
        image();
        counts();
        Check.end();
    }

    private static void forged() {
        BackByNoonOnMonday x = Check.shopOf("s001000;s401100;b100000;b110000;b200000;");
        Check.due("shelf -1", x.forged(-1), -1);
        Check.due("shelf 8", x.forged(8), -1);
        Check.due("nothing", x.forged(0), -11);
        x.keep(0, 1, 0, 0);
        Check.due("a kind", x.forged(0), -12);
        x.row(0, 2, 0);
        Check.due("no pair", x.forged(0), -4);
        Check.numbers(x, 0, 2, 0, 0, 0, 1, 1, 1);
        Check.due("all can be", x.forged(0), -4);
        Check.numbers(x, 0, 2, 0, 0, 0, 1, 1, 0, 9, 9);
        Check.due("does not fit", x.forged(0), 2);
        Check.numbers(x, 0, 0, 2, 0);
        Check.due("no such suit", x.forged(0), 0);
        Check.numbers(x, 0, 1, 0, 0, 0, 3);
        Check.due("no such booking", x.forged(0), 1);
        Check.numbers(x, 0, 2, 0, 0, Integer.MIN_VALUE, 0);
        Check.due("the least number is not skipped", x.forged(0), 1);
        Check.numbers(x, 0, 2, 0, 0, 0);
        Check.due("unwhole", x.forged(0), -13);
        x.row(0, 0, 14);
        Check.due("seven pairs", x.forged(0), -4);
        x.row(0, 0, 16);
        Check.due("eight pairs", x.forged(0), -13);
        x.row(0, 0, 15);
        Check.due("seven and a half", x.forged(0), -13);
    }

    private static void stained() {
        BackByNoonOnMonday x = Check.shopOf("s001000;s001100;b100000;b110000;b100000;");
        Check.numbers(x, 0, 2, 0, 1, 1, 1, 1, 2, 0, 1);
        Check.due("both", x.stained(0, 3, 0), 1);
        Check.due("the one", x.stained(0, 3, 1), 1);
        Check.due("suit 1", x.stained(0, 2, 0), 2);
        Check.due("the least", x.stained(0, 2, 1), 1);
        Check.due("of no suit all", x.stained(0, 0, 0), 3);
        Check.due("of no suit the least", x.stained(0, 0, 1), 0);
        Check.due("one that there is not", x.stained(0, 4, 0), 0);
        Check.due("nobody had it", x.stained(0, 4, 1), -4);
        Check.due("of all", x.stained(0, 127, 0), 0);
        Check.due("shelf -1", x.stained(-1, 0, 0), -1);
        Check.due("shelf 8", x.stained(8, 0, 0), -1);
        Check.due("set -1", x.stained(0, -1, 0), -1);
        Check.due("set 128 ahead of -11", x.stained(1, 128, 0), -1);
        Check.due("what -1", x.stained(0, 0, -1), -1);
        Check.due("what 2", x.stained(0, 0, 2), -1);
        Check.due("nothing", x.stained(1, 0, 0), -11);
        x.keep(1, 1, 0, 0);
        Check.due("a kind", x.stained(1, 0, 0), -12);
        Check.numbers(x, 1, 0, 0);
        Check.due("unwhole", x.stained(1, 0, 0), -13);
        x.row(1, 0, 16);
        Check.due("eight pairs", x.stained(1, 0, 0), -13);
        Check.numbers(x, 1, 0, 0, 0, 2, 0);
        Check.due("forged", x.stained(1, 0, 0), -13);
        x.row(1, 0, 0);
        Check.due("no pairs, suit 0", x.stained(1, 1, 0), 0);
        Check.due("nobody at all", new BackByNoonOnMonday().stained(1, 0, 0), -11);
    }

    private static void judge() {
        BackByNoonOnMonday x = Check.shopOf("s001000;s001100;s001000;s001000;b100000;b110000;h00;h11;r0;r1;h20;");
        Check.due("shelf -1", x.judge(-1), -1);
        Check.due("shelf 8", x.judge(8), -1);
        Check.due("nothing", x.judge(0), -11);
        x.keep(0, 1, 0, 0);
        Check.due("a kind", x.judge(0), -12);
        Check.numbers(x, 0, 0, 1, 2, 3);
        Check.due("so it is", x.judge(0), -4);
        Check.numbers(x, 0, 0, 1, 2, 3, 4);
        Check.due("behind the last", x.judge(0), 3);
        Check.numbers(x, 0, 0, 1, 2, 3, -128, 3);
        Check.due("behind the last, one skipped", x.judge(0), 4);
        Check.numbers(x, 0, 0, 0, 2, 3);
        Check.due("now", x.judge(0), 0);
        Check.numbers(x, 0, 1, -32768, 3);
        Check.due("the first is skipped", x.judge(0), 1);
        Check.numbers(x, 0, 1, -128);
        Check.due("not the least of shorts", x.judge(0), 0);
        Check.numbers(x, 0, 2, Integer.MIN_VALUE, 2, Integer.MIN_VALUE, Integer.MIN_VALUE);
        Check.due("all skipped but one", x.judge(0), -4);
        x.row(0, 2, 0);
        Check.due("nothing told", x.judge(0), -4);
    }

    private static void weeks() {
        BackByNoonOnMonday x = Check.shopOf("s001000;s101000;b100000;b100000;b100000;");
        Check.due("a week", x.weeks(1, 7, 0), 25);
        Check.due("one had none", x.weeks(1, 7, 1), 1);
        Check.due("each from now", x.weeks(20, 7, 0), 500);
        Check.due("twenty had none", x.weeks(20, 7, 1), 20);
        x.hires(0, 0);
        Check.due("who HAS one has no more", x.weeks(3, 1, 0), 45);
        Check.due("nor is counted", x.weeks(3, 1, 1), 3);
        Check.due("nothing changes", x.count(2), 10);
        Check.due("the other is in", x.count(4), 2);
        Check.due("no week", x.weeks(0, 0, 0), -1);
        Check.due("21 weeks", x.weeks(21, 0, 0), -1);
        Check.due("what -1", x.weeks(1, 0, -1), -1);
        Check.due("what 2", x.weeks(1, 0, 2), -1);
        Check.due("nobody", new BackByNoonOnMonday().weeks(20, 0, 0), 0);
    }

    private static void weeksSeeds() {
        // Draws from seed 1: z is 1103527590, then 2524885223 (less 2 to the 32): 16838 % 10, 5758 % 10.
        BackByNoonOnMonday x = Check.shopOf("s001000;b100009;b100008;");
        Check.due("8 is below 9; 8 is not below 8", x.weeks(1, 1, 0), 10);
        Check.due("it had one", x.weeks(1, 1, 1), 0);
        x = Check.shopOf("b100009;b100009;");
        Check.due("neither comes", x.weeks(1, 1, 1), 0);
        x = Check.shopOf("b100008;b100008;");
        Check.due("both come", x.weeks(1, 1, 1), 2);
        // One who HAS one draws, too: the second's draw is the same.
        x = Check.shopOf("s001000;b100000;b100009;h00;");
        Check.due("the draw of who HAS one", x.weeks(1, 1, 1), 0);
        Check.due("all 20 weeks by one seed", x.weeks(20, -5, 1), plainWeeks(-5));
        Check.due("another seed", x.weeks(20, Integer.MIN_VALUE, 1), plainWeeks(Integer.MIN_VALUE));
    }

    /** Of 20 weeks with two draws each, how many second draws are 9. */
    private static int plainWeeks(int seed) {
        int z = seed;
        int many = 0;
        for (int draw = 1; draw <= 40; draw++) {
            z = z * 1103515245 + 12345;
            many += draw % 2 == 0 && (z & 0x7fffffff) / 65536 % 10 == 9 ? 1 : 0;
        }
        return many;
    }

    private static void image() {
        BackByNoonOnMonday x = new BackByNoonOnMonday();
        Check.due("there is none", x.restore(), -3);
        Check.told(x, "s001000;s301000;b111234;b100000;h10;r1;c1;h00;r0;");
        Check.due("the hour", x.image(), 2);
        Check.told(x, "c0;h00;h11;b202999;s791500;");
        Check.due("hour then", x.count(3), 5);
        x.keep(2, 1, 3, 3);
        Check.due("restored", x.restore(), 2);
        int[] due = {2, 2, 15, 2, 2, 0, 1, 2};
        for (int what = 0; what < 8; what++) {
            Check.due("count " + what + " as it was", x.count(what), due[what]);
        }
        Check.due("size", x.booking(0, 0), 11);
        Check.due("group", x.booking(0, 1), 1);
        Check.due("grows", x.booking(0, 2), 2);
        Check.due("late", x.booking(0, 3), 3);
        Check.due("absent", x.booking(0, 4), 4);
        Check.due("has none", x.booking(0, 5), 9);
        Check.due("shelves stay", x.cost(2), 5);
        x.hires(1, 1);
        x.cleans(0);
        Check.due("restored twice", x.restore(), 2);
        Check.due("as it was again", x.booking(1, 5), 9);
        x.cleans(0);
        Check.due("a later image", x.image(), 5);
        x.hires(0, 0);
        Check.due("the later one", x.restore(), 5);
        Check.due("in again", x.suit(0, 4), 0);
        Check.told(x, "s791500;");
        Check.due("room is as it was", x.suit(2, 0), 7);
        BackByNoonOnMonday other = new BackByNoonOnMonday();
        Check.due("an image of an empty shop", other.image(), 0);
        Check.told(other, "s001000;b100000;h00;");
        Check.due("empty again", other.restore(), 0);
        Check.due("no suits", other.count(0), 0);
        Check.due("no bookings", other.count(1), 0);
        Check.due("no pence", other.count(2), 0);
    }

    private static void counts() {
        BackByNoonOnMonday x = Check.shopOf("s001005;s301007;s001000;b111234;b100000;h00;h11;r0;");
        int[] due = {3, 2, 15, 0, 4, 2, 1, 14};
        for (int what = 0; what < 8; what++) {
            Check.due("count " + what, x.count(what), due[what]);
        }
        Check.due("count -1", x.count(-1), -1);
        Check.due("count 8", x.count(8), -1);
    }
}
