/** Promises 36 to 42: keep, row, put, element, copy, cost, toss. */
public final class ShelfTest {
    public static void main(String[] args) {
        keeps();
        rows();
        puts();
        elements();
        copies();
        costs();
        tosses();
        Check.end();
    }

    private static void keeps() {
        BackByNoonOnMonday x = new BackByNoonOnMonday();
        for (int d = 0; d < 8; d++) {
            Check.due("cost of a new shelf", x.cost(d), -11);
        }
        Check.due("keep", x.keep(0, 1, 7, 9), 0);
        Check.due("cost kept", x.cost(0), 16);
        Check.due("keep nothing, others any", x.keep(0, 0, 99, -99), 0);
        Check.due("cost of nothing", x.cost(0), -11);
        Check.due("keep -1", x.keep(-1, 1, 0, 0), -1);
        Check.due("keep 8", x.keep(8, 1, 0, 0), -1);
        Check.due("keep what -1", x.keep(0, -1, 0, 0), -1);
        Check.due("keep what 2", x.keep(0, 2, 0, 0), -1);
        Check.due("keep kind 8", x.keep(0, 1, 8, 0), -1);
        Check.due("keep kind -1", x.keep(0, 1, -1, 0), -1);
        Check.due("keep figure 10", x.keep(0, 1, 0, 10), -1);
        Check.due("keep figure -1", x.keep(0, 1, 0, -1), -1);
        Check.due("refused keeps changed nothing", x.cost(0), -11);
        x.row(0, 2, 5);
        x.keep(0, 1, 0, 3);
        Check.due("a kind in place of a row", x.put(0, 0, 1), -12);
    }

    private static void rows() {
        BackByNoonOnMonday x = new BackByNoonOnMonday();
        Check.due("row -1", x.row(-1, 0, 1), -1);
        Check.due("row 8", x.row(8, 0, 1), -1);
        Check.due("row sort -1", x.row(0, -1, 1), -1);
        Check.due("row sort 3", x.row(0, 3, 1), -1);
        Check.due("row 101", x.row(0, 0, 101), -1);
        Check.due("row below 0", x.row(0, 0, -1), -14);
        Check.due("row -1 ahead of -14", x.row(8, 0, -1), -1);
        Check.due("row sort ahead of -14", x.row(0, 3, Integer.MIN_VALUE), -1);
        Check.due("refused rows lay nothing", x.put(0, 0, 1), -11);
        Check.due("row 100", x.row(0, 2, 100), 0);
        Check.due("last put", x.put(0, 99, 7), 0);
        Check.due("last element", x.element(0, 99), 7);
        Check.due("row again", x.row(0, 2, 100), 0);
        Check.due("all 0 again", x.element(0, 99), 0);
        Check.due("row 0", x.row(0, 1, 0), 0);
        Check.due("no place in it", x.put(0, 0, 1), -13);
    }

    private static void puts() {
        BackByNoonOnMonday x = new BackByNoonOnMonday();
        Check.due("put -1", x.put(-1, 0, 0), -1);
        Check.due("put 8", x.put(8, 0, 0), -1);
        Check.due("put -11", x.put(0, 0, 0), -11);
        x.keep(0, 1, 0, 0);
        Check.due("put -12", x.put(0, 0, 0), -12);
        x.row(0, 0, 3);
        Check.due("put place -1", x.put(0, -1, 0), -13);
        Check.due("put place 3", x.put(0, 3, 0), -13);
        int[] values = {0, 1, -1, 127, 128, 255, 256, -128, -129, 32767, 32768, 65535, 65536, -32769,
            Integer.MAX_VALUE, Integer.MIN_VALUE};
        for (int v : values) {
            x.row(0, 0, 3);
            x.row(1, 1, 3);
            x.row(2, 2, 3);
            Check.due("put byte", x.put(0, 1, v), 0);
            Check.due("put short", x.put(1, 1, v), 0);
            Check.due("put int", x.put(2, 1, v), 0);
            Check.due("byte of " + v, x.element(0, 1), (byte) v);
            Check.due("short of " + v, x.element(1, 1), (short) v);
            Check.due("int of " + v, x.element(2, 1), v);
            Check.due("its neighbour", x.element(2, 2), 0);
        }
    }

    private static void elements() {
        BackByNoonOnMonday x = new BackByNoonOnMonday();
        Check.due("element of shelf -1", Check.thrownByElement(x, -1, 0), 1);
        Check.due("element of shelf 8", Check.thrownByElement(x, 8, -1), 1);
        Check.due("element of nothing", Check.thrownByElement(x, 0, 0), 2);
        x.keep(0, 1, 0, 0);
        Check.due("element of a kind", Check.thrownByElement(x, 0, 0), 2);
        x.row(0, 1, 2);
        Check.due("element -1", Check.thrownByElement(x, 0, -1), 2);
        Check.due("element 2", Check.thrownByElement(x, 0, 2), 2);
        Check.due("element 1", Check.thrownByElement(x, 0, 1), 0);
    }

    private static void copies() {
        BackByNoonOnMonday x = new BackByNoonOnMonday();
        Check.numbers(x, 0, 2, 1, 2, 3, 4, 5);
        Check.numbers(x, 1, 2, 10, 20, 30);
        Check.due("copy", x.copy(0, 1, 1, 0, 2), 2);
        Check.due("copied 0", x.element(1, 0), 2);
        Check.due("copied 1", x.element(1, 1), 3);
        Check.due("left 2", x.element(1, 2), 30);
        Check.due("copy forward over itself", x.copy(0, 0, 0, 1, 4), 4);
        for (int i = 0; i < 5; i++) {
            Check.due("over itself " + i, x.element(0, i), i == 0 ? 1 : i);
        }
        Check.due("copy back over itself", x.copy(0, 2, 0, 1, 3), 3);
        Check.due("back 1", x.element(0, 1), 2);
        Check.due("back 3", x.element(0, 3), 4);
        Check.due("copy none at the end", x.copy(0, 5, 1, 3, 0), 0);
        Check.due("copy shelf -1", x.copy(-1, 0, 1, 0, 1), -1);
        Check.due("copy shelf 8", x.copy(0, 0, 8, 0, 1), -1);
        Check.due("copy from nothing", x.copy(5, 0, 1, 0, 1), -11);
        Check.due("copy to nothing", x.copy(0, 0, 5, 0, 1), -11);
        x.keep(2, 1, 0, 0);
        Check.due("-11 ahead of -12", x.copy(2, 0, 5, 0, 1), -11);
        Check.due("copy from a kind", x.copy(2, 0, 1, 0, 1), -12);
        Check.due("copy to a kind", x.copy(0, 0, 2, 0, 1), -12);
        x.row(3, 1, 5);
        Check.due("copy to another sort", x.copy(0, 0, 3, 0, 1), -12);
        Check.due("-12 ahead of -13", x.copy(0, -1, 3, 0, 1), -12);
        Check.due("copy place -1", x.copy(0, -1, 1, 0, 1), -13);
        Check.due("copy to -1", x.copy(0, 0, 1, -1, 1), -13);
        Check.due("copy size -1", x.copy(0, 0, 1, 0, -1), -13);
        Check.due("copy too many from", x.copy(1, 1, 0, 0, 3), -13);
        Check.due("copy too many to", x.copy(0, 0, 1, 1, 3), -13);
        Check.due("copy from behind the end", x.copy(0, 6, 1, 0, 0), -13);
        Check.due("copy to behind the end", x.copy(0, 0, 1, 4, 0), -13);
        Check.due("copy most", x.copy(0, Integer.MAX_VALUE, 1, 0, Integer.MAX_VALUE), -13);
        Check.due("copy least", x.copy(0, 1, 1, 0, Integer.MIN_VALUE), -13);
        Check.due("refused copies change nothing", x.element(1, 0), 2);
    }

    private static final int[][] COSTS = {
        {4, 4, 4}, {4, 7, 13}, {2, 2, 2}, {5, 5, 5}, {8, 14, 26}, {2, 5, 11}, {2, 2, 2}, {7, 10, 16}};

    private static void costs() {
        BackByNoonOnMonday x = new BackByNoonOnMonday();
        int[] figures = {0, 3, 9};
        for (int k = 0; k < 8; k++) {
            for (int i = 0; i < 3; i++) {
                x.keep(4, 1, k, figures[i]);
                Check.due("cost of kind " + k + " figure " + figures[i], x.cost(4), COSTS[k][i]);
            }
        }
        Check.due("cost -1", x.cost(-1), -1);
        Check.due("cost 8", x.cost(8), -1);
        Check.due("cost of nothing", x.cost(5), -11);
        x.row(5, 0, 0);
        Check.due("cost of a row", x.cost(5), -12);
    }

    private static void tosses() {
        BackByNoonOnMonday x = new BackByNoonOnMonday();
        int[] ofThree = {3, 103, 3, -15, 214, 3, -15, 103};
        for (int k = 0; k < 8; k++) {
            x.keep(4, 1, k, 3);
            Check.due("toss of kind " + k, x.toss(4), ofThree[k]);
            Check.due("it stays there", x.toss(4), ofThree[k]);
            x.keep(4, 1, k, 0);
            Check.due("toss without figure, kind " + k, x.toss(4), -15);
        }
        Check.due("toss -1", x.toss(-1), -1);
        Check.due("toss 8", x.toss(8), -1);
        Check.due("toss of nothing", x.toss(5), -11);
        x.row(5, 0, 0);
        Check.due("toss of a row", x.toss(5), -12);
    }
}
