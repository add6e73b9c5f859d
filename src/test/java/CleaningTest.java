/** Promises 22 to 28: ready, fee, bestFee, atFive, taxi, friday, tight. */
public final class CleaningTest {
    public static void main(String[] args) {
        readyRefusals();
        ready();
        readyLeastNumbers();
        fee();
        atFive();
        taxi();
        friday();
        tight();
        Check.end();
    }

    private static int ready(BackByNoonOnMonday x, int what, int... hours) {
        Check.numbers(x, 6, 1, hours);
        return x.ready(6, what);
    }

    private static void readyRefusals() {
        BackByNoonOnMonday x = Check.dirty(0, 1);
        Check.due("shelf -1", x.ready(-1, 0), -1);
        Check.due("shelf 8", x.ready(8, 0), -1);
        Check.due("what 3 ahead of -11", x.ready(1, 3), -1);
        Check.due("what -1", x.ready(1, -1), -1);
        Check.due("nothing", x.ready(1, 0), -11);
        Check.due("a kind", x.ready(0, 0), -12);
        Check.due("more than suits", ready(x, 2, 1, 1, 1), -13);
        Check.due("100", ready(x, 2, 1, 100), -13);
        Check.due("-1", ready(x, 2, -1, 1), -13);
        Check.due("99 and 0", ready(x, 2, 99, 0), 7);
        Check.due("none told", ready(x, 2), 7);
        Check.due("none told, none ready", ready(x, 0), 0);
        Check.due("none told, no first", ready(x, 1), -4);
        x.cleans(0);
        Check.due("100 for an in one", ready(x, 0, 100, 9), -13);
    }

    private static void ready() {
        // CLEANS: 3, 4, 2, 8.
        BackByNoonOnMonday x = Check.dirty(0, 1, 3, 4);
        Check.due("all in time", ready(x, 0, 9, 5, 99, 17), 4);
        Check.due("by hours told", ready(x, 1, 9, 5, 99, 17), 1);
        Check.due("then numbers", ready(x, 1, 17, 17, 17, 17), 0);
        Check.due("an hour short", ready(x, 0, 16, 16, 16, 16), 3);
        Check.due("one only", ready(x, 0, 3, 4, 2, 8), 1);
        Check.due("of several the least bits", ready(x, 1, 3, 4, 2, 8), 0);
        Check.due("two", ready(x, 0, 5, 4, 2, 8), 2);
        // 0 and 2 (bits 5) come ahead of any other two; by hours 2 is first.
        Check.due("the first of these", ready(x, 1, 5, 4, 2, 8), 2);
        Check.due("none can be", ready(x, 0, 2, 3, 1, 7), 0);
        Check.due("none is first", ready(x, 1, 2, 3, 1, 7), -4);
        Check.due("those not told never mind", ready(x, 0, 3), 1);
        Check.due("hours for all", ready(x, 2, 3), 17);
        x.cleans(0);
        Check.due("an in one never minds", ready(x, 0, 0, 4), 1);
        Check.due("nor is it first", ready(x, 1, 0, 4), 1);
        Check.due("from now", ready(x, 0, 0, 4, 6), 2);
        Check.due("hours for the others", ready(x, 2), 14);
        x.cleans(1);
        x.hires(1, 0);
        Check.due("an out one never minds", ready(x, 0, 99, 99, 99, 99), 2);
        Check.due("none dirty", Check.shopOf("s001000;").ready(7, 2), -13);
    }

    private static void readyLeastNumbers() {
        BackByNoonOnMonday x = Check.dirty(0, 1);
        Check.numbers(x, 1, 0, -128, 4);
        Check.due("bytes", x.ready(1, 0), 1);
        Check.due("bytes, first", x.ready(1, 1), 1);
        Check.numbers(x, 1, 1, -32768, 4);
        Check.due("shorts", x.ready(1, 1), 1);
        Check.numbers(x, 1, 1, -128, 4);
        Check.due("not the least of shorts", x.ready(1, 1), -13);
        Check.numbers(x, 1, 2, Integer.MIN_VALUE, 4);
        Check.due("ints", x.ready(1, 1), 1);
        Check.numbers(x, 1, 2, -32768, 4);
        Check.due("not the least of ints", x.ready(1, 1), -13);
    }

    private static void fee() {
        BackByNoonOnMonday x = Check.shopOf("b000090;b000040;b000010;b000000;");
        Check.due("fee 0", x.fee(0, 0), 0);
        Check.due("all come", x.fee(0, 1), 15);
        Check.due("fee 3", x.fee(3, 0), 42);
        Check.due("fee 4", x.fee(4, 0), 4 * (8 + 3));
        Check.due("all come with 4", x.fee(4, 1), 15);
        Check.due("who comes with 5", x.fee(5, 1), 7);
        Check.due("fee 8", x.fee(8, 0), 8 * (7 + 2));
        Check.due("fee 20", x.fee(20, 0), 20 * 4);
        Check.due("4 comes with 20", x.fee(20, 1), 3);
        Check.due("3 does not", Check.shopOf("b000030;").fee(20, 1), 0);
        Check.due("3 comes with 19", Check.shopOf("b000030;").fee(19, 1), 1);
        Check.due("fee -1", x.fee(-1, 0), -1);
        Check.due("fee 21", x.fee(21, 0), -1);
        Check.due("what -1", x.fee(0, -1), -1);
        Check.due("what 2", x.fee(0, 2), -1);
        // 15 by 8, 19 by 7: 15 * (6 + 1) = 105, 19 * (5 + 0) = 95.
        Check.due("fee 15", x.fee(15, 0), 105);
        Check.due("fee 19", x.fee(19, 0), 95);
        Check.due("the best", x.bestFee(), 15);
        Check.due("nobody", new BackByNoonOnMonday().bestFee(), 0);
        Check.due("nobody late", Check.shopOf("b000000;").bestFee(), 0);
        Check.due("of several the least", Check.shopOf("b000010;").bestFee(), 3);
        x = Check.shopOf("b000020;s000000;h00;");
        Check.due("who HAS one, too", x.fee(3, 0), 6);
    }

    private static void atFive() {
        BackByNoonOnMonday x = new BackByNoonOnMonday();
        Check.due("as much", x.atFive(5, 20, 10), 0);
        Check.due("more", x.atFive(5, 20, 11), 1);
        Check.due("more by a part", x.atFive(5, 19, 10), 1);
        Check.due("less by a part", x.atFive(5, 21, 10), 0);
        Check.due("surely", x.atFive(10, 99, 99), 0);
        Check.due("never", x.atFive(0, 99, 1), 1);
        Check.due("nothing", x.atFive(0, 99, 0), 0);
        Check.due("c -1", x.atFive(-1, 0, 0), -1);
        Check.due("c 11", x.atFive(11, 0, 0), -1);
        Check.due("p -1", x.atFive(0, -1, 0), -1);
        Check.due("p 100", x.atFive(0, 100, 0), -1);
        Check.due("q -1", x.atFive(0, 0, -1), -1);
        Check.due("q 100", x.atFive(0, 0, 100), -1);
    }

    private static void taxi() {
        BackByNoonOnMonday x = Check.shopOf("s001000;s001000;b100090;b100030;h01;");
        Check.due("three tenths of 100", x.taxi(0, 29, 100), 1);
        Check.due("no more", x.taxi(0, 30, 100), 0);
        Check.due("by a part", x.taxi(0, 30, 101), 1);
        Check.due("most", x.taxi(0, 99, 999), 1);
        Check.due("nothing", x.taxi(0, 0, 0), 0);
        Check.due("suit -1", x.taxi(-1, 0, 0), -1);
        Check.due("suit 2", x.taxi(2, 0, 0), -1);
        Check.due("t -1", x.taxi(0, -1, 0), -1);
        Check.due("t 100", x.taxi(0, 100, 0), -1);
        Check.due("h -1", x.taxi(0, 0, -1), -1);
        Check.due("h 1000", x.taxi(0, 0, 1000), -1);
        Check.due("-1 ahead of -3", x.taxi(1, 100, 0), -1);
        Check.due("an in one", x.taxi(1, 0, 1), -3);
        x.returns(0);
        Check.due("a dirty one", x.taxi(0, 0, 1), -3);
    }

    private static void friday() {
        BackByNoonOnMonday x = Check.shopOf("s001000;s201000;s001100;b100000;b110000;b120000;b100000;");
        Check.due("none", x.friday(0), 0);
        Check.due("no first", x.friday(1), -4);
        Check.told(x, "h01;h12;");
        Check.due("0 does not fit 12", x.friday(0), 0);
        x.hires(2, 0);
        // Bookings 0 (10) has 2 (11), 1 (11) has 0 (10), 2 (12) has 1 (10, wide).
        Check.due("pairs", x.friday(0), 2);
        Check.due("the first", x.friday(1), 1);
        x.returns(0);
        Check.due("0 and 2 alone", x.friday(0), 1);
        Check.due("is the first", x.friday(1), 2);
        Check.due("what -1", x.friday(-1), -1);
        Check.due("what 2", x.friday(2), -1);
    }

    private static void tight() {
        BackByNoonOnMonday x = Check.shopOf("s001000;s001000;s401000;s201000;b100000;b110000;b100000;b120000;");
        Check.due("nobody has one", x.tight(), 0);
        Check.told(x, "h00;h11;h22;h33;");
        Check.due("these", x.tight(), 2 + 4 + 8);
        x = Check.shopOf("s001200;s001900;b110000;b200000;h00;h11;");
        Check.due("a suit that is too great; 1 more than 20", x.tight(), 2);
    }
}
