/** The edges of promises 36 to 42: shelves. One test for each sentence that names one. */
public final class ShelfEdgesTest {
    private static final int[] MOST = {127, 32767, Integer.MAX_VALUE};
    private static final int[] LEAST = {-128, -32768, Integer.MIN_VALUE};

    public static void main(String[] args) {
        shelvesAtFirst();
        keepsKindsAndFigures();
        othersDoNotMatter();
        oneThingAShelf();
        rowsOfEachSize();
        elementsAreZeroAtFirst();
        putKeepsTheLowestBits();
        putAtTheEnds();
        elementAtTheEnds();
        elementOfAnEmptyRow();
        copyAllOfIt();
        copyNone();
        copyAtTheEnds();
        copyOverItself();
        copyBetweenRowsOfOneSort();
        copyKeepsWhatIsPut();
        takenFromAShelfStaysThere();
        costOfEachKind();
        tossOfEachKind();
        Check.end();
    }

    /** "SHELVES 0 .. 7 each hold nothing (at first)". */
    private static void shelvesAtFirst() {
        BackByNoonOnMonday x = new BackByNoonOnMonday();
        for (int d = 0; d < 8; d++) {
            Check.due("cost of " + d, x.cost(d), -11);
            Check.due("toss of " + d, x.toss(d), -11);
            Check.due("put on " + d, x.put(d, 0, 0), -11);
            Check.due("element of " + d, Check.thrownByElement(x, d, 0), 2);
            Check.due("shop of " + d, x.shop(d), -11);
            Check.due("buys from " + d, x.buys(d, 0), -11);
            Check.due("ready by " + d, x.ready(d, 0), -11);
            Check.due("stained by " + d, x.stained(d, 0, 0), -11);
            Check.due("forged on " + d, x.forged(d), -11);
            Check.due("judge of " + d, x.judge(d), -11);
            Check.due("copy of " + d, x.copy(d, 0, d, 0, 0), -11);
        }
    }

    /** "a KIND of SUIT of KIND k with a FIGURE": KINDS 0 .. 7, FIGURES 0 .. 9, SHELVES 0 .. 7. */
    private static void keepsKindsAndFigures() {
        BackByNoonOnMonday x = new BackByNoonOnMonday();
        for (int k = 0; k < 8; k++) {
            Check.due("figure 0 of " + k, x.keep(k, 1, k, 0), 0);
            Check.due("figure 9 of " + k, x.keep(7 - k, 1, k, 9), 0);
        }
        for (int k = 0; k < 8; k++) {
            x = new BackByNoonOnMonday();
            Check.due("keeps " + k, x.keep(k, 1, k, 9 - k), 0);
            Check.due("buys " + k, x.buys(k, 0), 0);
            Check.due("KIND", x.suit(0, 0), k);
            Check.due("FIGURE", x.suit(0, 1), 9 - k);
        }
    }

    /** "what = 0 nothing (the others do not matter)". */
    private static void othersDoNotMatter() {
        BackByNoonOnMonday x = new BackByNoonOnMonday();
        int[] any = {-1, 0, 7, 8, 9, 10, Integer.MIN_VALUE, Integer.MAX_VALUE};
        for (int k : any) {
            for (int figure : any) {
                x.keep(0, 1, 0, 1);
                Check.due("nothing of " + k + ", " + figure, x.keep(0, 0, k, figure), 0);
                Check.due("nothing is held", x.cost(0), -11);
            }
        }
        x.row(0, 0, 3);
        Check.due("nothing in place of a row", x.keep(0, 0, 8, 10), 0);
        Check.due("no row", x.put(0, 0, 0), -11);
        Check.due("nothing in place of nothing", x.keep(1, 0, -1, -1), 0);
        Check.due("no such shelf, though", x.keep(8, 0, 0, 0), -1);
        Check.due("nor such a one", x.keep(-1, 0, 0, 0), -1);
    }

    /** A shelf holds one thing: what comes takes the place of what was. */
    private static void oneThingAShelf() {
        BackByNoonOnMonday x = new BackByNoonOnMonday();
        x.keep(0, 1, 1, 5);
        x.keep(0, 1, 2, 6);
        Check.due("a kind for a kind", x.toss(0), 6);
        Check.due("its cost", x.cost(0), 2);
        x.row(0, 1, 2);
        Check.due("a row for a kind", x.cost(0), -12);
        Check.due("no kind any more", x.buys(0, 0), -12);
        Check.due("put in the row", x.put(0, 1, 40000), 0);
        x.row(0, 2, 1);
        Check.due("a row for a row: its size", x.put(0, 1, 0), -13);
        x.put(0, 0, 40000);
        Check.due("its sort", x.element(0, 0), 40000);
        x.keep(0, 1, 0, 7);
        Check.due("a kind for a row", x.put(0, 0, 0), -12);
        Check.due("no row any more", Check.thrownByElement(x, 0, 0), 2);
        Check.due("another shelf never minds", x.toss(1), -11);
    }

    /** "0 .. 100 elements". */
    private static void rowsOfEachSize() {
        for (int sort = 0; sort < 3; sort++) {
            for (int n : new int[] {0, 1, 2, 50, 99, 100}) {
                BackByNoonOnMonday x = new BackByNoonOnMonday();
                Check.due("row of " + n, x.row(7, sort, n), 0);
                Check.due("behind its end", x.put(7, n, 1), -13);
                Check.due("ahead of its start", x.put(7, -1, 1), -13);
                if (n > 0) {
                    Check.due("its last", x.put(7, n - 1, 1), 0);
                    Check.due("its last is put", x.element(7, n - 1), 1);
                }
            }
            BackByNoonOnMonday x = new BackByNoonOnMonday();
            Check.due("row of 101", x.row(7, sort, 101), -1);
            Check.due("row of -1", x.row(7, sort, -1), -14);
            Check.due("nothing is held", x.put(7, 0, 0), -11);
        }
    }

    /** "0 at first": also where another row has been. */
    private static void elementsAreZeroAtFirst() {
        for (int sort = 0; sort < 3; sort++) {
            BackByNoonOnMonday x = new BackByNoonOnMonday();
            x.row(0, sort, 100);
            for (int i = 0; i < 100; i++) {
                Check.due("at first " + i, x.element(0, i), 0);
                x.put(0, i, i + 1);
            }
            x.row(0, (sort + 1) % 3, 100);
            for (int i = 0; i < 100; i++) {
                Check.due("at first again " + i, x.element(0, i), 0);
            }
            x.put(0, 0, 9);
            x.put(0, 1, 9);
            x.row(0, sort, 1);
            Check.due("a shorter one", x.element(0, 0), 0);
            x.keep(0, 1, 0, 0);
            x.row(0, sort, 2);
            Check.due("behind a kind", x.element(0, 0), 0);
            Check.due("behind a kind, too", x.element(0, 1), 0);
        }
    }

    /** "what is put in keeps its lowest bits". */
    private static void putKeepsTheLowestBits() {
        for (int sort = 0; sort < 3; sort++) {
            BackByNoonOnMonday x = new BackByNoonOnMonday();
            x.row(0, sort, 3);
            put(x, MOST[sort], MOST[sort]);
            put(x, LEAST[sort], LEAST[sort]);
            put(x, MOST[sort] + 1, LEAST[sort]);
            put(x, LEAST[sort] - 1, MOST[sort]);
            put(x, 2 * MOST[sort] + 1, -1);
            put(x, 2 * MOST[sort] + 2, 0);
            put(x, 2 * LEAST[sort] + 5, 5);
            put(x, -1, -1);
            put(x, 0, 0);
            put(x, Integer.MAX_VALUE, sort == 2 ? Integer.MAX_VALUE : -1);
            put(x, Integer.MIN_VALUE, sort == 2 ? Integer.MIN_VALUE : 0);
            Check.due("its neighbours", x.element(0, 0) + x.element(0, 2), 0);
        }
    }

    private static void put(BackByNoonOnMonday x, int v, int due) {
        Check.due("put " + v, x.put(0, 1, v), 0);
        Check.due("element of " + v, x.element(0, 1), due);
    }

    private static void putAtTheEnds() {
        for (int sort = 0; sort < 3; sort++) {
            BackByNoonOnMonday x = new BackByNoonOnMonday();
            x.row(0, sort, 3);
            Check.due("the first", x.put(0, 0, 1), 0);
            Check.due("the last", x.put(0, 2, 3), 0);
            Check.due("behind the last", x.put(0, 3, 4), -13);
            Check.due("ahead of the first", x.put(0, -1, 4), -13);
            Check.due("the most", x.put(0, Integer.MAX_VALUE, 4), -13);
            Check.due("the least", x.put(0, Integer.MIN_VALUE, 4), -13);
            for (int i = 0; i < 3; i++) {
                Check.due("element " + i, x.element(0, i), i == 1 ? 0 : i + 1);
            }
        }
    }

    /** "IllegalArgumentException: no such SHELF; IllegalStateException: no ROW, no such place". */
    private static void elementAtTheEnds() {
        BackByNoonOnMonday x = new BackByNoonOnMonday();
        x.row(0, 2, 2);
        x.row(7, 2, 2);
        x.put(7, 1, -7);
        Check.due("shelf 0", Check.thrownByElement(x, 0, 0), 0);
        Check.due("shelf 7", Check.thrownByElement(x, 7, 1), 0);
        Check.due("its element", x.element(7, 1), -7);
        Check.due("shelf -1", Check.thrownByElement(x, -1, 0), 1);
        Check.due("shelf 8", Check.thrownByElement(x, 8, 0), 1);
        Check.due("shelf 8 ahead of a place", Check.thrownByElement(x, 8, 2), 1);
        Check.due("the least shelf", Check.thrownByElement(x, Integer.MIN_VALUE, 0), 1);
        Check.due("the greatest shelf", Check.thrownByElement(x, Integer.MAX_VALUE, 0), 1);
        Check.due("place -1", Check.thrownByElement(x, 0, -1), 2);
        Check.due("place 2", Check.thrownByElement(x, 0, 2), 2);
        Check.due("the least place", Check.thrownByElement(x, 0, Integer.MIN_VALUE), 2);
        Check.due("the greatest place", Check.thrownByElement(x, 0, Integer.MAX_VALUE), 2);
        Check.due("nothing", Check.thrownByElement(x, 1, 0), 2);
        x.keep(1, 1, 4, 6);
        Check.due("a kind", Check.thrownByElement(x, 1, 0), 2);
        x.keep(1, 0, 0, 0);
        Check.due("nothing again", Check.thrownByElement(x, 1, 0), 2);
    }

    private static void elementOfAnEmptyRow() {
        for (int sort = 0; sort < 3; sort++) {
            BackByNoonOnMonday x = new BackByNoonOnMonday();
            x.row(0, sort, 0);
            Check.due("no place 0", Check.thrownByElement(x, 0, 0), 2);
            Check.due("no put at 0", x.put(0, 0, 0), -13);
            Check.due("it is a row, though", x.cost(0), -12);
        }
    }

    private static void filled(BackByNoonOnMonday x, int d, int sort, int n, int from) {
        x.row(d, sort, n);
        for (int i = 0; i < n; i++) {
            x.put(d, i, from + i);
        }
    }

    /** "n elements of the ROW ... : n": as many as there are. */
    private static void copyAllOfIt() {
        BackByNoonOnMonday x = new BackByNoonOnMonday();
        filled(x, 0, 0, 100, 1);
        x.row(1, 0, 100);
        Check.due("all hundred", x.copy(0, 0, 1, 0, 100), 100);
        for (int i = 0; i < 100; i++) {
            Check.due("element " + i, x.element(1, i), i + 1);
        }
        Check.due("101", x.copy(0, 0, 1, 0, 101), -13);
        Check.due("100 from 1 on", x.copy(0, 1, 1, 0, 100), -13);
        Check.due("100 to 1 on", x.copy(0, 0, 1, 1, 100), -13);
        Check.due("99 from 1 on to 1 on", x.copy(0, 1, 1, 1, 99), 99);
        Check.due("on the same places", x.copy(0, 0, 0, 0, 100), 100);
    }

    /** None: at any place that is there, and at the end. */
    private static void copyNone() {
        BackByNoonOnMonday x = new BackByNoonOnMonday();
        filled(x, 0, 2, 3, 1);
        filled(x, 1, 2, 2, 11);
        for (int i = 0; i <= 3; i++) {
            for (int j = 0; j <= 2; j++) {
                Check.due("none from " + i + " to " + j, x.copy(0, i, 1, j, 0), 0);
            }
        }
        Check.due("none from 4", x.copy(0, 4, 1, 0, 0), -13);
        Check.due("none to 3", x.copy(0, 0, 1, 3, 0), -13);
        Check.due("none from -1", x.copy(0, -1, 1, 0, 0), -13);
        Check.due("none to -1", x.copy(0, 0, 1, -1, 0), -13);
        Check.due("as it was", x.element(1, 0) + x.element(1, 1), 23);
        x.row(2, 2, 0);
        Check.due("none of none", x.copy(2, 0, 2, 0, 0), 0);
        Check.due("one of none", x.copy(2, 0, 1, 0, 1), -13);
        Check.due("one to none", x.copy(1, 0, 2, 0, 1), -13);
        Check.due("-1 of them", x.copy(0, 1, 1, 1, -1), -13);
    }

    private static void copyAtTheEnds() {
        BackByNoonOnMonday x = new BackByNoonOnMonday();
        filled(x, 0, 1, 4, 1);
        filled(x, 7, 1, 3, 11);
        Check.due("the last to the last", x.copy(0, 3, 7, 2, 1), 1);
        Check.due("it is there", x.element(7, 2), 4);
        Check.due("the first to the first", x.copy(0, 0, 7, 0, 1), 1);
        Check.due("it is there, too", x.element(7, 0), 1);
        Check.due("between them as it was", x.element(7, 1), 12);
        Check.due("two from the last", x.copy(0, 3, 7, 0, 2), -13);
        Check.due("two to the last", x.copy(0, 0, 7, 2, 2), -13);
        Check.due("three to all", x.copy(0, 1, 7, 0, 3), 3);
        for (int i = 0; i < 3; i++) {
            Check.due("of three " + i, x.element(7, i), i + 2);
            Check.due("the first row stays " + i, x.element(0, i), i + 1);
        }
    }

    /** From a ROW to itself: the elements that were there come, forwards and backwards. */
    private static void copyOverItself() {
        for (int sort = 0; sort < 3; sort++) {
            BackByNoonOnMonday x = new BackByNoonOnMonday();
            filled(x, 0, sort, 6, 1);
            Check.due("forwards", x.copy(0, 0, 0, 2, 4), 4);
            int[] forwards = {1, 2, 1, 2, 3, 4};
            for (int i = 0; i < 6; i++) {
                Check.due("forwards " + i, x.element(0, i), forwards[i]);
            }
            filled(x, 0, sort, 6, 1);
            Check.due("backwards", x.copy(0, 1, 0, 0, 5), 5);
            int[] backwards = {2, 3, 4, 5, 6, 6};
            for (int i = 0; i < 6; i++) {
                Check.due("backwards " + i, x.element(0, i), backwards[i]);
            }
        }
    }

    /** "-12 (no ROWS of one SORT)": each SORT with each. */
    private static void copyBetweenRowsOfOneSort() {
        for (int a = 0; a < 3; a++) {
            for (int b = 0; b < 3; b++) {
                BackByNoonOnMonday x = new BackByNoonOnMonday();
                filled(x, 0, a, 1, 5);
                filled(x, 1, b, 1, 6);
                Check.due("sort " + a + " to " + b, x.copy(0, 0, 1, 0, 1), a == b ? 1 : -12);
                Check.due("none of sort " + a + " to " + b, x.copy(0, 0, 1, 0, 0), a == b ? 0 : -12);
                Check.due("element then", x.element(1, 0), a == b ? 5 : 6);
            }
        }
    }

    private static void copyKeepsWhatIsPut() {
        for (int sort = 0; sort < 3; sort++) {
            BackByNoonOnMonday x = new BackByNoonOnMonday();
            Check.numbers(x, 0, sort, LEAST[sort], MOST[sort]);
            x.row(1, sort, 2);
            Check.due("copied", x.copy(0, 0, 1, 0, 2), 2);
            Check.due("the least", x.element(1, 0), LEAST[sort]);
            Check.due("the most", x.element(1, 1), MOST[sort]);
            x.put(0, 0, 1);
            Check.due("its own from then on", x.element(1, 0), LEAST[sort]);
        }
    }

    /** "what is taken from a SHELF, stay[s] there"; and what comes there later changes no SUIT. */
    private static void takenFromAShelfStaysThere() {
        BackByNoonOnMonday x = new BackByNoonOnMonday();
        x.keep(0, 1, 7, 3);
        Check.due("bought", x.buys(0, 20), 0);
        Check.due("and once more", x.buys(0, 0), 1);
        Check.due("still there", x.cost(0), 10);
        Check.due("tossed", x.toss(0), 103);
        Check.due("still there to toss", x.toss(0), 103);
        x.keep(0, 1, 3, 9);
        x.keep(0, 0, 0, 0);
        for (int s = 0; s < 2; s++) {
            Check.due("KIND of " + s, x.suit(s, 0), 7);
            Check.due("FIGURE of " + s, x.suit(s, 1), 3);
        }
    }

    /** COST of KINDS with FIGURE 0 .. 9: "half of a MIXED's, cut" is 2 of 5. */
    private static void costOfEachKind() {
        BackByNoonOnMonday x = new BackByNoonOnMonday();
        for (int figure = 0; figure <= 9; figure++) {
            int[] due = {4, 4 + figure, 2, 5, 8 + 2 * figure, 2 + figure, 2, 7 + figure};
            for (int k = 0; k < 8; k++) {
                x.keep(7, 1, k, figure);
                Check.due("cost of KIND " + k + " FIGURE " + figure, x.cost(7), due[k]);
            }
        }
    }

    /** "any with FIGURE 0, have none"; "of BLACK ones 100 more"; "of SILK ones 200 plus their COST, in place of all that". */
    private static void tossOfEachKind() {
        BackByNoonOnMonday x = new BackByNoonOnMonday();
        for (int figure = 0; figure <= 9; figure++) {
            int[] due = {figure, 100 + figure, figure, -15, 208 + 2 * figure, figure, -15, 100 + figure};
            for (int k = 0; k < 8; k++) {
                x.keep(7, 1, k, figure);
                Check.due("toss of KIND " + k + " FIGURE " + figure, x.toss(7), figure == 0 ? -15 : due[k]);
            }
        }
    }
}
