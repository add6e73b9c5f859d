/**
 * Nothing is changed but what the document says: of the calls that ask, each leaves everything as it
 * was, THE IMAGE, too; and what each of the others changes is all that it changes.
 */
public final class AskingTest {
    public static void main(String[] args) {
        asking();
        askingByRows();
        hiresChangesThisAlone();
        returnsChangesThisAlone();
        cleansChangesThisAlone();
        imageChangesNothing();
        shelvesLeaveTheShop();
        fiveHundredAndTwelveCalls();
        Check.end();
    }

    /** Suits 0 and 3 are IN, 1 OUT, 2 DIRTY; bookings 0 and 2 have none; a row of hours, of pairs, of counts. */
    private static BackByNoonOnMonday shop() {
        BackByNoonOnMonday x = new BackByNoonOnMonday();
        for (int s = 0; s < 4; s++) {
            x.keep(0, 1, s * 2 + 1, 5);
            x.buys(0, 10);
        }
        x.books(10, 1, 555);
        x.books(10, 1, 456);
        x.books(11, 3, 789);
        x.image();
        x.hires(2, 0);
        x.returns(2);
        x.hires(1, 1);
        Check.numbers(x, 1, 0, -128, 0, 50);
        Check.numbers(x, 2, 1, 0, 0, 1, 1);
        Check.numbers(x, 3, 2, 2, 3);
        return x;
    }

    private static void leaves(String name, Everything.Call call) {
        Everything.stays(name, AskingTest::shop, call.on(shop()), call);
    }

    private static void asking() {
        leaves("suit", x -> x.suit(0, 5));
        leaves("booking", x -> x.booking(0, 5));
        leaves("fits", x -> x.fits(0, 0));
        leaves("served", x -> x.served(-1));
        leaves("served of the first", x -> x.served(0));
        leaves("leftOver", x -> x.leftOver());
        leaves("earned", x -> x.earned());
        leaves("alike", x -> x.alike());
        leaves("oneMore", x -> x.oneMore());
        leaves("grown", x -> x.grown(0));
        leaves("come", x -> x.come(1, 0));
        leaves("refuse", x -> x.refuse());
        leaves("buy", x -> x.buy(10, 1));
        leaves("sell", x -> x.sell());
        leaves("shines", x -> x.shines());
        leaves("fee", x -> x.fee(10, 0));
        leaves("bestFee", x -> x.bestFee());
        leaves("atFive", x -> x.atFive(1, 2, 3));
        leaves("taxi", x -> x.taxi(1, 1, 99));
        leaves("friday", x -> x.friday(1));
        leaves("tight", x -> x.tight());
        leaves("weeks", x -> x.weeks(20, 5, 0));
        leaves("count", x -> x.count(4));
    }

    private static void askingByRows() {
        for (int what = 0; what < 3; what++) {
            int which = what;
            leaves("ready " + what, x -> x.ready(1, which));
        }
        leaves("stained", x -> x.stained(2, 1, 0));
        leaves("stained, the least", x -> x.stained(2, 2, 1));
        leaves("forged", x -> x.forged(2));
        leaves("judge", x -> x.judge(3));
        leaves("element", x -> x.element(1, 2));
        leaves("cost", x -> x.cost(0));
        leaves("toss", x -> x.toss(0));
    }

    /** The lines of the one that are not in the other, as many as there are. */
    private static String changed(String before, String after) {
        StringBuilder lines = new StringBuilder();
        String[] was = before.split("\n");
        String[] is = after.split("\n");
        for (int i = 0; i < Math.max(was.length, is.length); i++) {
            if (i >= was.length || i >= is.length || !was[i].equals(is[i])) {
                lines.append(i >= is.length ? "-" : is[i]).append('\n');
            }
        }
        return lines.toString();
    }

    /** HIRED: STATE, WORN, PENCE, and what the BOOKING HAS. */
    private static void hiresChangesThisAlone() {
        BackByNoonOnMonday x = shop();
        String before = Everything.of(x);
        Check.due("hires", x.hires(0, 0), 45);
        String due = "4 3 45 0 8 3 4 3 \nsuit 1 5 10 1 1 20 1 4 25\nbooking 10 1 5 5 5 0\n";
        Check.same("hires", changed(before, Everything.of(x)), due);
    }

    /** BACK: STATE, and what the BOOKING HAS. */
    private static void returnsChangesThisAlone() {
        BackByNoonOnMonday x = shop();
        String before = Everything.of(x);
        Check.due("returns", x.returns(1), 1);
        String due = "4 3 25 0 9 0 6 2 \nsuit 3 5 10 1 2 7 1 2 25\nbooking 10 1 4 5 6 9\n";
        Check.same("returns", changed(before, Everything.of(x)), due);
    }

    /** CLEANED: STATE and HOUR. */
    private static void cleansChangesThisAlone() {
        BackByNoonOnMonday x = shop();
        String before = Everything.of(x);
        Check.due("cleans", x.cleans(2), 3);
        Check.same("cleans", changed(before, Everything.of(x)), "4 3 25 3 13 2 0 2 \nsuit 5 5 10 1 0 18 4 3 25\n");
    }

    private static void imageChangesNothing() {
        BackByNoonOnMonday x = shop();
        String before = Everything.of(x);
        Check.due("image", x.image(), 0);
        Check.same("image", Everything.of(x), before);
        Check.due("restore", x.restore(), 0);
        Check.same("restore at once", Everything.of(x), before);
    }

    /** What comes to one shelf changes neither the shop nor another shelf. */
    private static void shelvesLeaveTheShop() {
        BackByNoonOnMonday x = shop();
        String before = Everything.of(x);
        x.keep(0, 1, 0, 3);
        x.keep(7, 1, 4, 3);
        x.put(1, 0, 77);
        x.copy(3, 0, 3, 1, 1);
        String due = "shelf 4 3\nshelf -12 77 0 50 end\nshelf -12 2 2 end\nshelf 14 214\n";
        Check.same("shelves", changed(before, Everything.of(x)), due);
    }

    /** "An object is used for at most 512 calls": the 512th answers as any other. */
    private static void fiveHundredAndTwelveCalls() {
        BackByNoonOnMonday x = new BackByNoonOnMonday();
        x.keep(0, 1, 3, 0);
        x.buys(0, 10);
        x.books(10, 0, 0);
        for (int i = 0; i < 169; i++) {
            Check.due("hires", x.hires(0, 0), 5 * (i + 1));
            Check.due("returns", x.returns(0), 0);
            Check.due("cleans", x.cleans(0), 2 * (i + 1));
        }
        Check.due("the 511th", x.count(3), 338);
        Check.due("the 512th", x.suit(0, 3), 99);
    }
}
