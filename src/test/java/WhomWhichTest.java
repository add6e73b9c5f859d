/** Promises 10 to 21: fits, served, leftOver, earned, alike, oneMore, grown, come, refuse, buy, sell, shines. */
public final class WhomWhichTest {
    private static final long REFUSED = 1000000001L;

    public static void main(String[] args) {
        fits();
        served();
        servedMovesOthers();
        onlyWhatIsIn();
        earned();
        alike();
        oneMore();
        grown();
        come();
        refuse();
        buy();
        sell();
        shines();
        Check.end();
    }

    private static void fits() {
        BackByNoonOnMonday x = Check.shopOf("s001000;s201000;s401000;s501000;b060000;b080000;b090000;b100000;"
            + "b110000;");
        Check.told(x, "b120000;b150000;");
        // By suits with GIVES 1, 2, 0, 4: sizes 6, 8, 9, 10, 11, 12, 15.
        int[][] due = {{0, 0, 1, 1, 1, 0, 0}, {0, 1, 1, 1, 1, 1, 0}, {0, 0, 0, 1, 0, 0, 0}, {1, 1, 1, 1, 1, 1, 0}};
        for (int s = 0; s < 4; s++) {
            for (int b = 0; b < 7; b++) {
                Check.due("suit " + s + " booking " + b, x.fits(s, b), due[s][b]);
            }
        }
        Check.due("suit -1", x.fits(-1, 0), -1);
        Check.due("suit 4", x.fits(4, 0), -1);
        Check.due("booking -1", x.fits(0, -1), -1);
        Check.due("booking 7", x.fits(0, 7), -1);
        x.hires(0, 3);
        Check.due("an out one fits, too", x.fits(0, 4), 1);
    }

    private static void served() {
        BackByNoonOnMonday x = Check.shopOf("s001000;s001100;b120000;b110000;b100000;b000000;");
        Check.due("how many", x.served(-1), 2);
        Check.due("the least to the first", x.served(0), 1);
        Check.due("and so on", x.served(1), 0);
        Check.due("none", x.served(2), 9);
        Check.due("none fits", x.served(3), 9);
        Check.due("-2", x.served(-2), -1);
        Check.due("no such booking", x.served(4), -1);
        Check.due("no suit left", x.leftOver(), 0);
    }

    private static void servedMovesOthers() {
        // The first booking would like suit 0, but then the second had none.
        BackByNoonOnMonday x = Check.shopOf("s001000;s001200;b110000;b090000;b140000;");
        Check.due("two", x.served(-1), 2);
        Check.due("the first gives way", x.served(0), 1);
        Check.due("the second", x.served(1), 0);
        Check.due("the third", x.served(2), 9);
        // None is last: the first booking has one, though the second could have been served for it.
        x = Check.shopOf("s001000;b100000;b100000;");
        Check.due("one", x.served(-1), 1);
        Check.due("the first of them", x.served(0), 0);
        Check.due("not the second", x.served(1), 9);
        // A chain of three that all move on.
        x = Check.shopOf("s001000;s001200;s001400;b110000;b130000;b090000;");
        Check.due("three", x.served(-1), 3);
        Check.due("chain 0", x.served(0), 1);
        Check.due("chain 1", x.served(1), 2);
        Check.due("chain 2", x.served(2), 0);
        // The last suit can only go to the first booking: all six others move on.
        x = Check.shopOf("s000200;s000400;s000600;s000800;s001000;s001200;s000000;");
        Check.told(x, "b010000;b030000;b050000;b070000;b090000;b110000;b130000;");
        Check.due("all seven", x.served(-1), 7);
        Check.due("the first one's", x.served(0), 6);
        Check.due("the last one's", x.served(6), 5);
        Check.due("all earn", x.earned(), 70);
        Check.due("none may be done without", x.refuse(), -4);
    }

    private static void onlyWhatIsIn() {
        BackByNoonOnMonday x = Check.shopOf("s001000;s101000;s201000;s301000;b100000;b100000;b100000;h01;h12;r1;");
        Check.due("two are open", x.served(-1), 2);
        Check.due("first", x.served(0), 2);
        Check.due("has one already", x.served(1), 9);
        Check.due("third", x.served(2), 3);
        Check.due("neither out nor dirty is left over", x.leftOver(), 0);
        Check.due("earned of the in ones", x.earned(), 13);
        x.hires(2, 0);
        Check.due("left over", x.leftOver(), 0);
        x.hires(3, 2);
        Check.due("none open", x.served(-1), 0);
        x.returns(2);
        x.cleans(2);
        Check.due("it serves the one that brought it", x.served(0), 2);
        x = Check.shopOf("s001000;s001000;s002000;b100000;");
        Check.due("left over bits", x.leftOver(), 6);
    }

    private static void earned() {
        // Most pence is not the first by numbers: the SILK fits one alone.
        BackByNoonOnMonday x = Check.shopOf("s001000;s491000;s391000;b100000;b110000;");
        Check.due("silk and suit", x.earned(), 58);
        Check.due("while the first served has", x.served(0), 0);
        x = Check.shopOf("s001000;s101000;s201000;b110000;");
        Check.due("the dearest", x.earned(), 15);
        Check.due("of none", Check.shopOf("s001000;").earned(), 0);
        Check.due("nobody", Check.shopOf("b100000;").earned(), 0);
        Check.due("seven", Check.shopOf("s491000;s491000;s491000;s491000;s491000;s491000;").earned(), 0);
    }

    private static void alike() {
        BackByNoonOnMonday x = Check.shopOf("s001000;s101000;s001000;b101000;b101000;b100000;");
        Check.due("a kind for the group", x.alike(), 3);
        x = Check.shopOf("s001000;s101000;b101000;b101000;");
        Check.due("one of the group", x.alike(), 1);
        x = Check.shopOf("s001000;s101000;b100000;b100000;");
        Check.due("group 0 is none", x.alike(), 2);
        x = Check.shopOf("s001000;s101000;b101000;b102000;");
        Check.due("two groups, any a group", x.alike(), 2);
        x = Check.shopOf("s001000;s401000;s101000;b101000;b101000;b101000;");
        Check.due("what is under it is another kind", x.alike(), 1);
        x = Check.shopOf("s001000;s101000;s701000;s001000;b101000;b101000;b102000;b102000;b103000;h00;");
        Check.due("those that HAVE one do not bind", x.alike(), 3);
        x = Check.shopOf("s001000;s001000;s101000;s101000;s701000;b101000;b101000;b102000;b102000;b103000;");
        Check.due("three groups", x.alike(), 5);
    }

    private static void oneMore() {
        BackByNoonOnMonday x = Check.shopOf("s001000;b150000;b200000;b000000;");
        Check.due("the least size", x.oneMore(), 0);
        x = Check.shopOf("b200000;");
        Check.due("gives 1", x.oneMore(), 19);
        x = Check.shopOf("s001000;b100000;");
        Check.due("all are served", x.oneMore(), -4);
        x = Check.shopOf("s001000;");
        Check.due("nobody", x.oneMore(), -4);
        x = Check.shopOf("s501000;b100000;b140000;");
        Check.due("one that lets another move", x.oneMore(), 9);
        x = Check.shopOf("s001000;b100000;b110000;b110000;h00;r0;");
        Check.due("the dirty one does not count", x.oneMore(), 9);
        x = Check.shopOf("s002000;s002000;s002000;s002000;s002000;s002000;s002000;b100000;");
        Check.due("an eighth one", x.oneMore(), 9);
    }

    private static void grown() {
        BackByNoonOnMonday x = Check.shopOf("s001000;b110099;");
        Check.due("grows no", x.grown(0), 1);
        x = Check.shopOf("s001000;b110500;");
        Check.due("grows half", x.grown(0), 1);
        Check.due("of two", x.grown(1), 2);
        x = Check.shopOf("s001000;b110400;");
        Check.due("three", x.grown(0), 3);
        Check.due("of five", x.grown(1), 5);
        x = Check.shopOf("s002000;b200900;");
        Check.due("20 at most", x.grown(0), 1);
        Check.due("always", x.grown(1), 1);
        x = Check.shopOf("s001900;b200900;");
        Check.due("20 stays 20", x.grown(0), 1);
        x = Check.shopOf("s001000;b080900;");
        Check.due("fits only when grown", x.grown(0), 9);
        Check.due("of ten", x.grown(1), 10);
        x = Check.shopOf("s001000;s001200;b110300;b110700;");
        // One may grow, for the suit of 12; both may not: 1 - 0.3 * 0.7.
        Check.due("not both", x.grown(0), 79);
        Check.due("of a hundred", x.grown(1), 100);
        x.hires(0, 0);
        Check.due("who HAS one does not matter", x.grown(0), 1);
        x = new BackByNoonOnMonday();
        Check.due("nobody", x.grown(0), 1);
        Check.due("nobody below", x.grown(1), 1);
        x.books(10, 0, 500);
        Check.due("never", x.grown(0), 0);
        Check.due("never, of one", x.grown(1), 1);
        Check.due("part -1", x.grown(-1), REFUSED);
        Check.due("part 2", x.grown(2), REFUSED);
    }

    private static void come() {
        BackByNoonOnMonday x = Check.shopOf("b000005;b000002;s000000;h00;");
        Check.due("none come", x.come(0, 0), 1);
        Check.due("of ten", x.come(0, 1), 10);
        Check.due("one or fewer", x.come(1, 0), 3);
        Check.due("of five", x.come(1, 1), 5);
        Check.due("two or fewer", x.come(2, 0), 1);
        Check.due("seven or fewer", x.come(7, 0), 1);
        Check.due("seven or fewer of", x.come(7, 1), 1);
        Check.due("k -1", x.come(-1, 0), REFUSED);
        Check.due("k 8", x.come(8, 0), REFUSED);
        Check.due("part -1", x.come(0, -1), REFUSED);
        Check.due("part 2", x.come(0, 2), REFUSED);
        x = Check.shopOf("b000001;b000001;b000001;b000001;b000001;b000001;b000001;");
        Check.due("all but never none", x.come(0, 0), 1);
        Check.due("of ten millions", x.come(0, 1), 10000000);
        Check.due("six or fewer", x.come(6, 0), 5217031);
        Check.due("none is absent", Check.shopOf("b000000;").come(0, 0), 0);
        Check.due("none is absent, of one", Check.shopOf("b000000;").come(0, 1), 1);
    }

    private static void refuse() {
        BackByNoonOnMonday x = Check.shopOf("s001000;s101000;b100000;b110000;b100000;b200000;");
        Check.due("the least of several", x.refuse(), 0);
        x = Check.shopOf("s001000;s401300;b100000;b130000;b200000;");
        Check.due("who is served by none", x.refuse(), 2);
        x = Check.shopOf("s001000;b100000;");
        Check.due("none", x.refuse(), -4);
        x = Check.shopOf("s001000;b100000;b200000;h00;");
        Check.due("who HAS one is not refused", x.refuse(), 1);
        Check.due("nobody", Check.shopOf("s001000;").refuse(), -4);
        x = Check.shopOf("s001000;s491000;b100000;b110000;b100000;");
        Check.due("the first two may be done without", x.refuse(), 0);
        x = Check.shopOf("s491000;s001100;b100000;b110000;b120000;");
        Check.due("the silk one's is needed", x.refuse(), 1);
    }

    private static void buy() {
        BackByNoonOnMonday x = Check.shopOf("b100000;");
        Check.due("silk", x.buy(10, 0), 4);
        Check.due("40 more", x.buy(10, 1), 40);
        Check.due("velvet, a size off", x.buy(11, 0), 7);
        Check.due("23 more", x.buy(11, 1), 23);
        Check.due("stretch", x.buy(14, 0), 5);
        Check.due("18 more", x.buy(14, 1), 18);
        Check.due("two off: stretch", x.buy(8, 0), 5);
        Check.due("of several the least", x.buy(15, 0), 0);
        Check.due("by nothing", x.buy(15, 1), 0);
        Check.due("size -1", x.buy(-1, 0), -1);
        Check.due("size 21", x.buy(21, 0), -1);
        Check.due("what -1", x.buy(0, -1), -1);
        Check.due("what 2", x.buy(0, 2), -1);
        x = Check.shopOf("s191000;b100000;");
        Check.due("in place of a black one", x.buy(10, 1), 16);
        x = Check.shopOf("s002000;s002000;s002000;s002000;s002000;s002000;s002000;b100000;");
        Check.due("an eighth one", x.buy(10, 1), 40);
        Check.due("it is not bought", x.count(0), 7);
    }

    private static void sell() {
        BackByNoonOnMonday x = Check.shopOf("s001000;s101000;s002003;s002005;s002005;b100000;");
        Check.due("the most worn of those that earn nothing", x.sell(), 3);
        x = Check.shopOf("s001000;s101000;b100000;b100000;");
        Check.due("that earns least", x.sell(), 0);
        x = Check.shopOf("s101099;s001000;b100000;b100000;");
        Check.due("though the other is more worn", x.sell(), 1);
        x = Check.shopOf("s001000;s001000;");
        Check.due("then the least", x.sell(), 0);
        x = Check.shopOf("s001000;s001000;b100000;b100000;h00;");
        Check.due("an in one", x.sell(), 1);
        x.hires(1, 1);
        Check.due("none is in", x.sell(), -4);
        x.returns(0);
        Check.due("a dirty one is not in", x.sell(), -4);
        Check.due("no suit", new BackByNoonOnMonday().sell(), -4);
    }

    private static void shines() {
        BackByNoonOnMonday x = Check.shopOf("s001020;s001021;s451013;s451012;s601005;s601006;s191029;");
        Check.due("more often than they last", x.shines(), 2 + 4 + 32);
        x = Check.shopOf("s001020;b100000;h00;");
        Check.due("an out one, too", x.shines(), 1);
        Check.due("none", new BackByNoonOnMonday().shines(), 0);
    }
}
