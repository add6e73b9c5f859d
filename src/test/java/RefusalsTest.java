/**
 * "REFUSALS (answers; nothing changes)": each refusal of each call, at the first number that is not
 * allowed and at the farthest, and that everything stays as it was. "Answers of several REFUSALS are
 * the first one as they are told at the call": for each two that can meet, which is told.
 */
public final class RefusalsTest {
    private static final long REFUSED = 1000000001L;
    private static final int BYTES = 0;
    private static final int SHORTS = 1;
    private static final int INTS = 2;
    private static final int VELVET = 3;
    private static final int MIXED = 4;
    private static final int NOTHING = 5;

    public static void main(String[] args) {
        shop();
        suit();
        booking();
        buys();
        buysWithoutRoom();
        books();
        booksWithoutRoom();
        hires();
        returns();
        cleans();
        cleansAboveTheHour();
        fits();
        served();
        grown();
        come();
        buy();
        ready();
        readyNumbers();
        fee();
        atFive();
        taxi();
        friday();
        stained();
        forged();
        pairsThatAreNotWhole();
        judge();
        weeks();
        restore();
        count();
        keep();
        row();
        put();
        element();
        copy();
        copyPlaces();
        cost();
        toss();
        Check.end();
    }

    /**
     * Suit 0 is IN, 1 OUT, 2 DIRTY; bookings 0 and 2 have none, 2 fits no suit. On the shelves a row of
     * each sort, two kinds, nothing.
     */
    private static BackByNoonOnMonday standard() {
        BackByNoonOnMonday x = new BackByNoonOnMonday();
        x.keep(VELVET, 1, 7, 6);
        x.keep(MIXED, 1, 3, 5);
        x.keep(0, 1, 0, 4);
        x.buys(0, 10);
        x.keep(0, 1, 1, 0);
        x.buys(0, 10);
        x.buys(MIXED, 10);
        x.books(10, 1, 123);
        x.books(11, 0, 456);
        x.books(20, 3, 789);
        x.hires(2, 0);
        x.returns(2);
        x.cleans(2);
        x.image();
        x.hires(2, 0);
        x.returns(2);
        x.hires(1, 1);
        Check.numbers(x, BYTES, 0, 'c', '2', ';');
        Check.numbers(x, SHORTS, 1, 99, 0, 7, 8);
        Check.numbers(x, INTS, 2, 0, 1, 1);
        return x;
    }

    /** Seven suits, seven bookings. */
    private static BackByNoonOnMonday full() {
        BackByNoonOnMonday x = new BackByNoonOnMonday();
        x.keep(VELVET, 1, 7, 6);
        for (int i = 0; i < 7; i++) {
            x.buys(VELVET, i);
            x.books(i, 0, 0);
        }
        x.row(BYTES, 0, 1);
        x.image();
        x.hires(0, 0);
        return x;
    }

    private static void refused(String name, long due, Everything.Call call) {
        Everything.stays(name, RefusalsTest::standard, due, call);
    }

    private static void refusedWhenFull(String name, long due, Everything.Call call) {
        BackByNoonOnMonday x = full();
        String before = Everything.of(x);
        Check.due(name, call.on(x), due);
        Check.same(name + " changed", Everything.of(x), before);
    }

    private static void shop() {
        for (int d : Everything.outside(0, 7)) {
            refused("shop of shelf " + d, -1, x -> x.shop(d));
        }
        refused("shop of nothing", -11, x -> x.shop(NOTHING));
        refused("shop of nothing on the last shelf", -11, x -> x.shop(7));
        refused("shop of a kind", -12, x -> x.shop(VELVET));
        refused("shop of shorts", -12, x -> x.shop(SHORTS));
        refused("shop of ints", -12, x -> x.shop(INTS));
    }

    private static void suit() {
        for (int s : Everything.outside(0, 2)) {
            refused("suit " + s, -1, x -> x.suit(s, 0));
        }
        for (int what : Everything.outside(0, 8)) {
            refused("suit 2 what " + what, -1, x -> x.suit(2, what));
        }
        refused("suit 3 what 9", -1, x -> x.suit(3, 9));
    }

    private static void booking() {
        for (int b : Everything.outside(0, 2)) {
            refused("booking " + b, -1, x -> x.booking(b, 0));
        }
        for (int what : Everything.outside(0, 5)) {
            refused("booking 2 what " + what, -1, x -> x.booking(2, what));
        }
        refused("booking 3 what 6", -1, x -> x.booking(3, 6));
    }

    private static void buys() {
        for (int d : Everything.outside(0, 7)) {
            refused("buys from shelf " + d, -1, x -> x.buys(d, 10));
        }
        for (int size : Everything.outside(0, 20)) {
            refused("buys size " + size, -1, x -> x.buys(VELVET, size));
            refused("-1 ahead of -11", -1, x -> x.buys(NOTHING, size));
            refused("-1 ahead of -12", -1, x -> x.buys(BYTES, size));
        }
        refused("buys nothing", -11, x -> x.buys(NOTHING, 0));
        refused("buys a row of bytes", -12, x -> x.buys(BYTES, 0));
        refused("buys a row of shorts", -12, x -> x.buys(SHORTS, 20));
        refused("buys a row of ints", -12, x -> x.buys(INTS, 20));
    }

    private static void buysWithoutRoom() {
        refusedWhenFull("an eighth suit", -2, x -> x.buys(VELVET, 0));
        refusedWhenFull("-1 of the shelf ahead of -2", -1, x -> x.buys(8, 0));
        refusedWhenFull("-1 of the size ahead of -2", -1, x -> x.buys(VELVET, 21));
        refusedWhenFull("-11 ahead of -2", -11, x -> x.buys(NOTHING, 0));
        refusedWhenFull("-12 ahead of -2", -12, x -> x.buys(BYTES, 0));
    }

    private static void books() {
        for (int size : Everything.outside(0, 20)) {
            refused("books size " + size, -1, x -> x.books(size, 0, 0));
        }
        for (int group : Everything.outside(0, 3)) {
            refused("books group " + group, -1, x -> x.books(0, group, 0));
        }
        for (int odds : Everything.outside(0, 999)) {
            refused("books odds " + odds, -1, x -> x.books(0, 0, odds));
        }
    }

    private static void booksWithoutRoom() {
        refusedWhenFull("an eighth booking", -2, x -> x.books(0, 0, 0));
        refusedWhenFull("-1 of the size ahead of -2", -1, x -> x.books(21, 0, 0));
        refusedWhenFull("-1 of the group ahead of -2", -1, x -> x.books(0, 4, 0));
        refusedWhenFull("-1 of the odds ahead of -2", -1, x -> x.books(0, 0, 1000));
    }

    private static void hires() {
        for (int s : Everything.outside(0, 2)) {
            refused("hires suit " + s, -1, x -> x.hires(s, 0));
            refused("-1 of the suit ahead of -3", -1, x -> x.hires(s, 1));
        }
        for (int b : Everything.outside(0, 2)) {
            refused("hires to booking " + b, -1, x -> x.hires(0, b));
            refused("-1 of the booking ahead of -3", -1, x -> x.hires(1, b));
        }
        refused("hires an OUT one", -3, x -> x.hires(1, 0));
        refused("hires a DIRTY one", -3, x -> x.hires(2, 0));
        refused("hires to one that HAS one", -3, x -> x.hires(0, 1));
        refused("hires one that does not FIT", -3, x -> x.hires(0, 2));
        refused("hires the one it HAS", -3, x -> x.hires(1, 1));
    }

    private static void returns() {
        for (int s : Everything.outside(0, 2)) {
            refused("returns " + s, -1, x -> x.returns(s));
        }
        refused("returns an IN one", -3, x -> x.returns(0));
        refused("returns a DIRTY one", -3, x -> x.returns(2));
    }

    private static void cleans() {
        for (int s : Everything.outside(0, 2)) {
            refused("cleans " + s, -1, x -> x.cleans(s));
        }
        refused("cleans an IN one", -3, x -> x.cleans(0));
        refused("cleans an OUT one", -3, x -> x.cleans(1));
    }

    /** Suits 0 (MIXED, two hours), 1 (SUIT, three) and 2 (BLACK, four) are DIRTY, HOUR is 996. */
    private static BackByNoonOnMonday late() {
        BackByNoonOnMonday x = Check.shopOf("s301000;s001000;s101000;b100000;h20;r2;");
        Check.text(x, 7, "c2;h20;r2;".repeat(9));
        for (int i = 0; i < 27; i++) {
            x.shop(7);
        }
        for (int i = 0; i < 6; i++) {
            Check.due("hour", x.cleans(2), 976 + 4 * i);
            x.hires(2, 0);
            x.returns(2);
        }
        x.image();
        x.hires(0, 0);
        x.returns(0);
        x.hires(1, 0);
        x.returns(1);
        x.keep(7, 0, 0, 0);
        return x;
    }

    private static void cleansAboveTheHour() {
        BackByNoonOnMonday x = late();
        Check.due("996", x.count(3), 996);
        String before = Everything.of(x);
        Check.due("hour 1000", x.cleans(2), -3);
        Check.same("hour 1000 changed", Everything.of(x), before);
        Check.due("hour 999", x.cleans(1), 999);
        Check.due("hour 1001", x.cleans(0), -3);
        Check.due("999 stays", x.count(3), 999);
        Check.due("-1 ahead of -3", x.cleans(3), -1);
    }

    private static void fits() {
        for (int n : Everything.outside(0, 2)) {
            refused("fits suit " + n, -1, x -> x.fits(n, 0));
            refused("fits booking " + n, -1, x -> x.fits(0, n));
        }
    }

    private static void served() {
        for (int i : Everything.outside(-1, 2)) {
            refused("served " + i, -1, x -> x.served(i));
        }
    }

    private static void grown() {
        for (int part : Everything.outside(0, 1)) {
            refused("grown " + part, REFUSED, x -> x.grown(part));
        }
    }

    private static void come() {
        for (int k : Everything.outside(0, 7)) {
            refused("come " + k, REFUSED, x -> x.come(k, 0));
        }
        for (int part : Everything.outside(0, 1)) {
            refused("come 0 part " + part, REFUSED, x -> x.come(0, part));
        }
    }

    private static void buy() {
        for (int size : Everything.outside(0, 20)) {
            refused("buy " + size, -1, x -> x.buy(size, 0));
        }
        for (int what : Everything.outside(0, 1)) {
            refused("buy 0 what " + what, -1, x -> x.buy(0, what));
        }
    }

    private static void ready() {
        for (int d : Everything.outside(0, 7)) {
            refused("ready by shelf " + d, -1, x -> x.ready(d, 0));
        }
        for (int what : Everything.outside(0, 2)) {
            refused("ready what " + what, -1, x -> x.ready(INTS, what));
            refused("-1 ahead of -11", -1, x -> x.ready(NOTHING, what));
            refused("-1 ahead of -12", -1, x -> x.ready(VELVET, what));
            refused("-1 ahead of -13", -1, x -> x.ready(SHORTS, what));
        }
        for (int what = 0; what < 3; what++) {
            int which = what;
            refused("ready by nothing", -11, x -> x.ready(NOTHING, which));
            refused("ready by a kind", -12, x -> x.ready(VELVET, which));
            refused("ready by more than suits", -13, x -> x.ready(SHORTS, which));
        }
    }

    private static void readyNumbers() {
        int[][] wrong = {{100}, {-1}, {0, 100}, {0, 0, -1}, {99, 99, 100}, {127}, {-127}};
        for (int[] numbers : wrong) {
            for (int sort = 0; sort < 3; sort++) {
                BackByNoonOnMonday x = standard();
                Check.numbers(x, 6, sort, numbers);
                String before = Everything.of(x);
                for (int what = 0; what < 3; what++) {
                    Check.due("ready by a number not 0 .. 99", x.ready(6, what), -13);
                }
                Check.same("ready changed", Everything.of(x), before);
            }
        }
    }

    private static void fee() {
        for (int f : Everything.outside(0, 20)) {
            refused("fee " + f, -1, x -> x.fee(f, 0));
        }
        for (int what : Everything.outside(0, 1)) {
            refused("fee 0 what " + what, -1, x -> x.fee(0, what));
        }
    }

    private static void atFive() {
        for (int c : Everything.outside(0, 10)) {
            refused("atFive c " + c, -1, x -> x.atFive(c, 0, 1));
        }
        for (int n : Everything.outside(0, 99)) {
            refused("atFive p " + n, -1, x -> x.atFive(0, n, 1));
            refused("atFive q " + n, -1, x -> x.atFive(0, 0, n));
        }
    }

    private static void taxi() {
        for (int s : Everything.outside(0, 2)) {
            refused("taxi of " + s, -1, x -> x.taxi(s, 0, 0));
        }
        for (int t : Everything.outside(0, 99)) {
            refused("taxi costs " + t, -1, x -> x.taxi(1, t, 0));
            refused("-1 of t ahead of -3", -1, x -> x.taxi(0, t, 0));
        }
        for (int h : Everything.outside(0, 999)) {
            refused("lateness " + h, -1, x -> x.taxi(1, 0, h));
            refused("-1 of h ahead of -3", -1, x -> x.taxi(2, 0, h));
        }
        refused("taxi of an IN one", -3, x -> x.taxi(0, 0, 999));
        refused("taxi of a DIRTY one", -3, x -> x.taxi(2, 0, 999));
    }

    private static void friday() {
        for (int what : Everything.outside(0, 1)) {
            refused("friday " + what, -1, x -> x.friday(what));
        }
    }

    private static void stained() {
        for (int d : Everything.outside(0, 7)) {
            refused("stained by shelf " + d, -1, x -> x.stained(d, 0, 0));
        }
        for (int set : Everything.outside(0, 127)) {
            refused("stained set " + set, -1, x -> x.stained(SHORTS, set, 0));
            refused("-1 of the set ahead of -11", -1, x -> x.stained(NOTHING, set, 0));
            refused("-1 of the set ahead of -12", -1, x -> x.stained(MIXED, set, 0));
            refused("-1 of the set ahead of -13", -1, x -> x.stained(INTS, set, 0));
        }
        for (int what : Everything.outside(0, 1)) {
            refused("stained what " + what, -1, x -> x.stained(SHORTS, 0, what));
            refused("-1 of what ahead of -11", -1, x -> x.stained(NOTHING, 0, what));
            refused("-1 of what ahead of -12", -1, x -> x.stained(MIXED, 0, what));
            refused("-1 of what ahead of -13", -1, x -> x.stained(INTS, 0, what));
        }
        refused("stained by nothing", -11, x -> x.stained(NOTHING, 127, 1));
        refused("stained by a kind", -12, x -> x.stained(MIXED, 127, 1));
        refused("stained by a forged one", -13, x -> x.stained(SHORTS, 0, 0));
        refused("stained by three numbers", -13, x -> x.stained(INTS, 0, 1));
    }

    private static void forged() {
        for (int d : Everything.outside(0, 7)) {
            refused("forged on shelf " + d, -1, x -> x.forged(d));
        }
        refused("forged by nothing", -11, x -> x.forged(NOTHING));
        refused("forged by a kind", -12, x -> x.forged(VELVET));
        refused("forged by three numbers", -13, x -> x.forged(INTS));
    }

    /** "unwhole, more than 7 pairs": also where a pair of them is forged. */
    private static void pairsThatAreNotWhole() {
        for (int sort = 0; sort < 3; sort++) {
            for (int n : new int[] {1, 3, 13, 15, 16, 17, 99, 100}) {
                BackByNoonOnMonday x = standard();
                x.row(6, sort, n);
                Check.due("forged by " + n, x.forged(6), -13);
                Check.due("stained by " + n, x.stained(6, 0, 0), -13);
                Check.due("stained first by " + n, x.stained(6, 0, 1), -13);
                x.put(6, 0, 9);
                Check.due("-13 though forged, by " + n, x.forged(6), -13);
            }
        }
    }

    private static void judge() {
        for (int d : Everything.outside(0, 7)) {
            refused("judge shelf " + d, -1, x -> x.judge(d));
        }
        refused("judge nothing", -11, x -> x.judge(NOTHING));
        refused("judge a kind", -12, x -> x.judge(MIXED));
    }

    private static void weeks() {
        for (int n : Everything.outside(1, 20)) {
            refused("weeks " + n, -1, x -> x.weeks(n, 0, 0));
        }
        for (int what : Everything.outside(0, 1)) {
            refused("weeks what " + what, -1, x -> x.weeks(1, 0, what));
        }
    }

    private static void restore() {
        BackByNoonOnMonday x = new BackByNoonOnMonday();
        Check.due("no image of a new one", x.restore(), -3);
        x = Check.shopOf("s001000;b100000;h00;r0;c0;");
        String before = Everything.of(x);
        Check.due("no image", x.restore(), -3);
        Check.same("restore without an image changed", Everything.of(x), before);
    }

    private static void count() {
        for (int what : Everything.outside(0, 7)) {
            refused("count " + what, -1, x -> x.count(what));
        }
    }

    private static void keep() {
        for (int d : Everything.outside(0, 7)) {
            refused("keep nothing on shelf " + d, -1, x -> x.keep(d, 0, 0, 0));
            refused("keep a kind on shelf " + d, -1, x -> x.keep(d, 1, 0, 0));
        }
        for (int what : Everything.outside(0, 1)) {
            refused("keep what " + what, -1, x -> x.keep(BYTES, what, 0, 0));
            refused("keep what " + what + " over a kind", -1, x -> x.keep(VELVET, what, 0, 0));
        }
        for (int k : Everything.outside(0, 7)) {
            refused("keep kind " + k, -1, x -> x.keep(VELVET, 1, k, 0));
            refused("keep kind " + k + " over a row", -1, x -> x.keep(INTS, 1, k, 0));
        }
        for (int figure : Everything.outside(0, 9)) {
            refused("keep figure " + figure, -1, x -> x.keep(VELVET, 1, 0, figure));
            refused("keep figure " + figure + " on an empty one", -1, x -> x.keep(NOTHING, 1, 0, figure));
        }
    }

    private static void row() {
        for (int d : Everything.outside(0, 7)) {
            refused("row on shelf " + d, -1, x -> x.row(d, 0, 1));
            refused("-1 of the shelf ahead of -14", -1, x -> x.row(d, 0, -1));
        }
        for (int sort : Everything.outside(0, 2)) {
            refused("row of sort " + sort, -1, x -> x.row(VELVET, sort, 1));
            refused("-1 of the sort ahead of -14", -1, x -> x.row(BYTES, sort, -1));
        }
        for (int sort = 0; sort < 3; sort++) {
            int one = sort;
            refused("row of 101", -1, x -> x.row(INTS, one, 101));
            refused("row of the most", -1, x -> x.row(VELVET, one, Integer.MAX_VALUE));
            refused("row of -1", -14, x -> x.row(SHORTS, one, -1));
            refused("row of the least", -14, x -> x.row(NOTHING, one, Integer.MIN_VALUE));
        }
    }

    private static void put() {
        for (int d : Everything.outside(0, 7)) {
            refused("put on shelf " + d, -1, x -> x.put(d, 0, 1));
            refused("-1 ahead of -13", -1, x -> x.put(d, -1, 1));
        }
        refused("put in nothing", -11, x -> x.put(NOTHING, 0, 1));
        refused("-11 ahead of -13", -11, x -> x.put(NOTHING, -1, 1));
        refused("put in a kind", -12, x -> x.put(VELVET, 0, 1));
        refused("-12 ahead of -13", -12, x -> x.put(VELVET, 100, 1));
        for (int i : Everything.outside(0, 2)) {
            refused("put at " + i, -13, x -> x.put(BYTES, i, 1));
            refused("put at " + i + " of ints", -13, x -> x.put(INTS, i, 1));
        }
        refused("put at 4 of four", -13, x -> x.put(SHORTS, 4, 1));
    }

    private static void element() {
        for (int d : Everything.outside(0, 7)) {
            refused("element of shelf " + d, 1, x -> Check.thrownByElement(x, d, 0));
            refused("no such shelf ahead of no such place", 1, x -> Check.thrownByElement(x, d, -1));
        }
        refused("element of nothing", 2, x -> Check.thrownByElement(x, NOTHING, 0));
        refused("element of a kind", 2, x -> Check.thrownByElement(x, VELVET, 0));
        for (int i : Everything.outside(0, 2)) {
            refused("element " + i, 2, x -> Check.thrownByElement(x, BYTES, i));
            refused("element " + i + " of ints", 2, x -> Check.thrownByElement(x, INTS, i));
        }
        refused("element 4 of four", 2, x -> Check.thrownByElement(x, SHORTS, 4));
    }

    private static void copy() {
        for (int d : Everything.outside(0, 7)) {
            refused("copy from shelf " + d, -1, x -> x.copy(d, 0, INTS, 0, 1));
            refused("copy to shelf " + d, -1, x -> x.copy(INTS, 0, d, 0, 1));
            refused("-1 ahead of -11", -1, x -> x.copy(NOTHING, 0, d, 0, 1));
            refused("-1 of the first ahead of -11", -1, x -> x.copy(d, 0, NOTHING, 0, 1));
            refused("-1 ahead of -12", -1, x -> x.copy(VELVET, 0, d, 0, 1));
            refused("-1 ahead of -13", -1, x -> x.copy(INTS, -1, d, 0, 1));
        }
        refused("copy from nothing", -11, x -> x.copy(NOTHING, 0, INTS, 0, 1));
        refused("copy to nothing", -11, x -> x.copy(INTS, 0, NOTHING, 0, 1));
        refused("copy from nothing to nothing", -11, x -> x.copy(NOTHING, 0, NOTHING, 0, 0));
        refused("-11 ahead of -12", -11, x -> x.copy(VELVET, 0, NOTHING, 0, 1));
        refused("-11 of the first ahead of -12", -11, x -> x.copy(NOTHING, 0, VELVET, 0, 1));
        refused("-11 ahead of -13", -11, x -> x.copy(INTS, -1, NOTHING, 0, 1));
        refused("copy from a kind", -12, x -> x.copy(VELVET, 0, INTS, 0, 1));
        refused("copy to a kind", -12, x -> x.copy(INTS, 0, VELVET, 0, 1));
        refused("copy from a kind to bytes", -12, x -> x.copy(VELVET, 0, BYTES, 0, 0));
        refused("copy from bytes to a kind", -12, x -> x.copy(BYTES, 0, VELVET, 0, 0));
        refused("copy from a kind to a kind", -12, x -> x.copy(VELVET, 0, MIXED, 0, 0));
        refused("copy from bytes to shorts", -12, x -> x.copy(BYTES, 0, SHORTS, 0, 0));
        refused("copy from shorts to bytes", -12, x -> x.copy(SHORTS, 0, BYTES, 0, 1));
        refused("copy from bytes to ints", -12, x -> x.copy(BYTES, 0, INTS, 0, 1));
        refused("copy from ints to shorts", -12, x -> x.copy(INTS, 0, SHORTS, 0, 1));
        refused("-12 ahead of -13", -12, x -> x.copy(BYTES, -1, INTS, -1, -1));
        refused("-12 of a kind ahead of -13", -12, x -> x.copy(VELVET, -1, INTS, -1, -1));
    }

    /** Rows of five and of three ints: places that are not there, and a size that is not as told. */
    private static void copyPlaces() {
        int[][] wrong = {{-1, 0, 1}, {5, 0, 1}, {6, 0, 0}, {0, -1, 1}, {0, 3, 1}, {0, 4, 0}, {0, 0, -1}, {0, 0, 4},
            {3, 0, 3}, {0, 1, 3}, {1, 1, 3}, {-1, 0, 0}, {0, -1, 0}, {Integer.MAX_VALUE, 0, 1}, {0, Integer.MAX_VALUE, 1},
            {1, 0, Integer.MAX_VALUE}, {0, 0, Integer.MIN_VALUE}, {Integer.MAX_VALUE, 0, Integer.MAX_VALUE},
            {Integer.MIN_VALUE, 0, 1}, {0, Integer.MIN_VALUE, 1}, {Integer.MIN_VALUE, 0, Integer.MIN_VALUE},
            {5, 3, -1}, {1, 1, -1}};
        for (int[] call : wrong) {
            BackByNoonOnMonday x = new BackByNoonOnMonday();
            Check.numbers(x, 0, 2, 1, 2, 3, 4, 5);
            Check.numbers(x, 1, 2, 6, 7, 8);
            String before = Everything.of(x);
            String name = "copy from " + call[0] + " to " + call[1] + " of " + call[2];
            Check.due(name, x.copy(0, call[0], 1, call[1], call[2]), -13);
            Check.same(name + " changed", Everything.of(x), before);
        }
    }

    private static void cost() {
        for (int d : Everything.outside(0, 7)) {
            refused("cost of shelf " + d, -1, x -> x.cost(d));
        }
        refused("cost of nothing", -11, x -> x.cost(NOTHING));
        for (int d = BYTES; d <= INTS; d++) {
            int row = d;
            refused("cost of a row", -12, x -> x.cost(row));
        }
    }

    private static void toss() {
        for (int d : Everything.outside(0, 7)) {
            refused("toss of shelf " + d, -1, x -> x.toss(d));
        }
        refused("toss of nothing", -11, x -> x.toss(NOTHING));
        for (int d = BYTES; d <= INTS; d++) {
            int row = d;
            refused("toss of a row", -12, x -> x.toss(row));
        }
        refused("toss of a MIXED one", -15, x -> x.toss(MIXED));
    }
}
