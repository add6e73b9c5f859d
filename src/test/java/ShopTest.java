/** Promises 1 to 9: a new object, shop, suit, booking, buys, books, hires, returns, cleans. */
public final class ShopTest {
    public static void main(String[] args) {
        aNewObject();
        texts();
        textRefusals();
        badBytes();
        badStatements();
        suits();
        bookings();
        buying();
        booked();
        hiring();
        backAndClean();
        mostHours();
        Check.end();
    }

    private static void aNewObject() {
        BackByNoonOnMonday x = new BackByNoonOnMonday();
        for (int what = 0; what < 8; what++) {
            Check.due("count of a new one", x.count(what), 0);
        }
        Check.due("no suit", x.suit(0, 0), -1);
        Check.due("no booking", x.booking(0, 0), -1);
        Check.due("no image", x.restore(), -3);
        Check.due("nothing on a shelf", x.shop(7), -11);
    }

    private static void texts() {
        BackByNoonOnMonday x = Check.shopOf("s041007;b101325;h00;");
        Check.due("size", x.suit(0, 2), 10);
        Check.due("worn", x.suit(0, 3), 8);
        Check.due("out", x.suit(0, 4), 1);
        Check.due("pence", x.count(2), 14);
        Check.due("group", x.booking(0, 1), 1);
        Check.due("grows", x.booking(0, 2), 3);
        Check.due("late", x.booking(0, 3), 2);
        Check.due("absent", x.booking(0, 4), 5);
        Check.due("has", x.booking(0, 5), 0);
        Check.due("a text goes on with the shop that is", Check.told(x, "r0;c0;s791999;b200000;"), 4);
        Check.due("hour", x.count(3), 3);
        Check.due("second suit", x.suit(1, 0), 7);
        Check.due("its figure", x.suit(1, 1), 9);
        Check.due("its size", x.suit(1, 2), 19);
        Check.due("its worn", x.suit(1, 3), 99);
        Check.due("second booking", x.booking(1, 0), 20);
        Check.due("99 worn at most", Check.told(x, "h11;"), 1);
        Check.due("it is 99", x.suit(1, 3), 99);
        Check.due("the row stays there", x.element(7, 0), 'h');
        Check.due("told again", x.shop(7), -2000);
        Check.due("pence then", x.count(2), 14 + 27);
    }

    private static void textRefusals() {
        BackByNoonOnMonday x = new BackByNoonOnMonday();
        Check.due("shelf -1", x.shop(-1), -1);
        Check.due("shelf 8", x.shop(8), -1);
        Check.due("nothing", x.shop(0), -11);
        x.keep(0, 1, 0, 0);
        Check.due("a kind", x.shop(0), -12);
        Check.numbers(x, 0, 1, 'r', '0', ';');
        Check.due("shorts", x.shop(0), -12);
        Check.numbers(x, 0, 2, 'r', '0', ';');
        Check.due("ints", x.shop(0), -12);
    }

    private static void badBytes() {
        BackByNoonOnMonday x = new BackByNoonOnMonday();
        Check.due("an empty text", Check.told(x, ""), -1000);
        Check.due("no letter", Check.told(x, ";"), -1000);
        Check.due("a capital", Check.told(x, "S000000;"), -1000);
        Check.due("lacks digits", Check.told(x, "s00000"), -1006);
        Check.due("lacks its end", Check.told(x, "s000000"), -1007);
        Check.due("a digit too few", Check.told(x, "s00000;"), -1006);
        Check.due("a digit too many", Check.told(x, "s0000000;"), -1007);
        Check.due("no digit /", Check.told(x, "b0000/0;"), -1005);
        Check.due("no digit :", Check.told(x, "b:00000;"), -1001);
        Check.due("h with one digit", Check.told(x, "h0;"), -1002);
        Check.due("r with two", Check.told(x, "r00;"), -1002);
        Check.due("c alone", Check.told(x, "c"), -1001);
        Check.due("behind a whole one", Check.told(x, "s000000; "), -1008);
        Check.due("two ends", Check.told(x, "s000000;;"), -1008);
        Check.due("kind 1 ahead of kind 2", Check.told(x, "s900000;r0"), -1010);
        Check.due("a byte above 127", Check.told(x, "s\u00b000000;"), -1001);
        Check.due("nothing came", x.count(0), 0);
    }

    private static void badStatements() {
        String[] ends = {"s800000;", "s002100;", "b210000;", "b004000;", "h10;", "h01;", "h00;", "r0;", "r1;", "c0;",
            "c1;", "h09;", "r9;"};
        for (String end : ends) {
            BackByNoonOnMonday x = Check.shopOf("s000000;b050000;");
            Check.due("fault of " + end, Check.told(x, "s000500;" + end), end.equals("h10;") ? 2 : -2008);
            Check.due("suits behind " + end, x.count(0), end.equals("h10;") ? 2 : 1);
        }
        BackByNoonOnMonday x = Check.shopOf("s000500;b050000;b050000;");
        Check.due("each on what those ahead made", Check.told(x, "h00;r0;c0;h01;r0;h01;"), -2017);
        Check.due("nothing of it came", x.count(2), 0);
        Check.due("nor worn", x.count(7), 0);
        Check.due("nor hours", x.count(3), 0);
        Check.due("the least numbers", Check.told(x, "s770000;b000000;"), 2);
        x = Check.shopOf("b000000;b000000;b000000;b000000;b000000;b000000;b000000;");
        Check.due("an eighth booking", Check.told(x, "b000000;"), -2000);
        x = Check.shopOf("s000000;s000000;s000000;s000000;s000000;s000000;s000000;");
        Check.due("an eighth suit", Check.told(x, "b000000;s000000;"), -2008);
        Check.due("no booking came", x.count(1), 0);
    }

    // PRICE, GIVES, CLEANS, LASTS of each KIND, with FIGURE 0, 5, 9.
    private static final int[][] FIGURES = {
        {10, 1, 3, 20, 15, 1, 3, 25, 19, 1, 3, 29},
        {15, 1, 4, 20, 20, 1, 4, 25, 24, 1, 4, 29},
        {8, 2, 3, 20, 13, 2, 3, 25, 17, 2, 3, 29},
        {5, 1, 2, 20, 7, 1, 2, 25, 9, 1, 2, 29},
        {30, 0, 8, 10, 40, 0, 8, 12, 48, 0, 8, 14},
        {8, 4, 3, 20, 18, 4, 3, 25, 26, 4, 3, 29},
        {4, 1, 2, 5, 6, 1, 2, 10, 8, 1, 2, 14},
        {18, 1, 4, 20, 23, 1, 9, 25, 27, 1, 13, 29}};

    private static void suits() {
        int[] figures = {0, 5, 9};
        for (int k = 0; k < 8; k++) {
            BackByNoonOnMonday x = new BackByNoonOnMonday();
            for (int i = 0; i < 3; i++) {
                x.keep(0, 1, k, figures[i]);
                Check.due("buys", x.buys(0, 20 - i), i);
                Check.due("kind", x.suit(i, 0), k);
                Check.due("figure", x.suit(i, 1), figures[i]);
                Check.due("size", x.suit(i, 2), 20 - i);
                Check.due("worn", x.suit(i, 3), 0);
                Check.due("state", x.suit(i, 4), 0);
                for (int j = 0; j < 4; j++) {
                    Check.due("kind " + k + " what " + (5 + j), x.suit(i, 5 + j), FIGURES[k][4 * i + j]);
                }
            }
            Check.due("no suit 3", x.suit(3, 0), -1);
            Check.due("no suit -1", x.suit(-1, 0), -1);
            Check.due("what -1", x.suit(0, -1), -1);
            Check.due("what 9", x.suit(0, 9), -1);
        }
    }

    private static void bookings() {
        BackByNoonOnMonday x = new BackByNoonOnMonday();
        Check.due("books", x.books(20, 3, 987), 0);
        int[] due = {20, 3, 9, 8, 7, 9};
        for (int what = 0; what < 6; what++) {
            Check.due("booking " + what, x.booking(0, what), due[what]);
        }
        Check.due("no booking 1", x.booking(1, 0), -1);
        Check.due("no booking -1", x.booking(-1, 0), -1);
        Check.due("what -1", x.booking(0, -1), -1);
        Check.due("what 6", x.booking(0, 6), -1);
    }

    private static void buying() {
        BackByNoonOnMonday x = new BackByNoonOnMonday();
        Check.due("shelf -1", x.buys(-1, 0), -1);
        Check.due("shelf 8", x.buys(8, 0), -1);
        Check.due("size 21 ahead of -11", x.buys(0, 21), -1);
        Check.due("size -1", x.buys(0, -1), -1);
        Check.due("nothing", x.buys(0, 0), -11);
        x.row(0, 0, 1);
        Check.due("a row", x.buys(0, 0), -12);
        x.keep(1, 1, 5, 2);
        for (int s = 0; s < 7; s++) {
            Check.due("buys " + s, x.buys(1, s), s);
        }
        Check.due("no room", x.buys(1, 0), -2);
        Check.due("-1 ahead of -2", x.buys(1, 21), -1);
        Check.due("-11 ahead of -2", x.buys(2, 0), -11);
        Check.due("-12 ahead of -2", x.buys(0, 0), -12);
        Check.due("what it was stays on the shelf", x.cost(1), 4);
        x.keep(1, 1, 4, 9);
        Check.due("a suit is what it was bought as", x.suit(0, 0), 5);
        Check.due("seven", x.count(0), 7);
    }

    private static void booked() {
        BackByNoonOnMonday x = new BackByNoonOnMonday();
        Check.due("size -1", x.books(-1, 0, 0), -1);
        Check.due("size 21", x.books(21, 0, 0), -1);
        Check.due("group -1", x.books(0, -1, 0), -1);
        Check.due("group 4", x.books(0, 4, 0), -1);
        Check.due("odds -1", x.books(0, 0, -1), -1);
        Check.due("odds 1000", x.books(0, 0, 1000), -1);
        Check.due("none came", x.count(1), 0);
        for (int b = 0; b < 7; b++) {
            Check.due("books " + b, x.books(b, b % 4, b == 0 ? 999 : b == 1 ? 0 : b * 100), b);
        }
        Check.due("no room", x.books(0, 0, 0), -2);
        Check.due("-1 ahead of -2", x.books(0, 0, 1000), -1);
        Check.due("999: grows", x.booking(0, 2), 9);
        Check.due("999: late", x.booking(0, 3), 9);
        Check.due("999: absent", x.booking(0, 4), 9);
    }

    private static void hiring() {
        BackByNoonOnMonday x = Check.shopOf("s001098;s041000;s101300;b110000;b100000;b090000;");
        Check.due("no suit 3", x.hires(3, 0), -1);
        Check.due("no suit -1", x.hires(-1, 0), -1);
        Check.due("no booking 3", x.hires(0, 3), -1);
        Check.due("no booking -1", x.hires(0, -1), -1);
        Check.due("does not fit", x.hires(2, 0), -3);
        Check.due("nothing changed", x.count(4), 7);
        Check.due("hired", x.hires(0, 0), 10);
        Check.due("worn 99", x.suit(0, 3), 99);
        Check.due("has it", x.booking(0, 5), 0);
        Check.due("is out", x.suit(0, 4), 1);
        Check.due("it is out", x.hires(0, 1), -3);
        Check.due("has one", x.hires(1, 0), -3);
        Check.due("hired, too", x.hires(1, 1), 24);
        Check.due("pence", x.count(2), 24);
        x.returns(0);
        Check.due("a dirty one", x.hires(0, 2), -3);
        x.cleans(0);
        Check.due("again", x.hires(0, 2), 34);
        Check.due("worn 99 still", x.suit(0, 3), 99);
    }

    private static void backAndClean() {
        BackByNoonOnMonday x = Check.shopOf("s001000;s701000;b100000;b100000;h01;h10;");
        Check.due("no suit -1", x.returns(-1), -1);
        Check.due("no suit 2", x.returns(2), -1);
        Check.due("clean none -1", x.cleans(-1), -1);
        Check.due("clean none 2", x.cleans(2), -1);
        Check.due("clean an out one", x.cleans(0), -3);
        Check.due("back from 1", x.returns(0), 1);
        Check.due("it is dirty", x.suit(0, 4), 2);
        Check.due("has none", x.booking(1, 5), 9);
        Check.due("the other has still", x.booking(0, 5), 1);
        Check.due("not twice", x.returns(0), -3);
        Check.due("back from 0", x.returns(1), 0);
        Check.due("cleaned", x.cleans(1), 4);
        Check.due("cleaned, too", x.cleans(0), 7);
        Check.due("in", x.suit(0, 4), 0);
        Check.due("clean an in one", x.cleans(0), -3);
        Check.due("return an in one", x.returns(0), -3);
        Check.due("hour", x.count(3), 7);
        Check.due("pence stay", x.count(2), 28);
    }

    private static void mostHours() {
        // VELVET with figure 9 cleans 13 hours: 76 times are 988; a SUIT's three hours bring 997.
        BackByNoonOnMonday x = Check.shopOf("s791000;s001000;s301000;b100000;");
        for (int i = 0; i < 76; i++) {
            x.hires(0, 0);
            x.returns(0);
            Check.due("hour", x.cleans(0), 13 * (i + 1));
        }
        for (int i = 0; i < 3; i++) {
            x.hires(1, 0);
            x.returns(1);
            Check.due("three hours", x.cleans(1), 988 + 3 * (i + 1));
        }
        x.hires(1, 0);
        x.returns(1);
        Check.due("hour 1000", x.cleans(1), -3);
        Check.due("still dirty", x.suit(1, 4), 2);
        Check.due("in a text", Check.told(x, "h20;r2;c1;"), -2007);
        Check.due("two hours", Check.told(x, "h20;r2;c2;"), 3);
        Check.due("hour 999", x.count(3), 999);
        Check.due("99 worn", x.suit(0, 3), 76);
        Check.due("HOUR no matter: judged", judged(x), -4);
    }

    private static int judged(BackByNoonOnMonday x) {
        Check.numbers(x, 0, 0, 2, 3);
        return x.judge(0);
    }
}
