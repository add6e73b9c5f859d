/** What the tests share: counting wrong answers, texts and rows laid on shelves. */
final class Check {
    private static int wrong = 0;
    private static int asked = 0;

    private Check() {
    }

    static void due(String call, long got, long want) {
        asked++;
        if (got != want) {
            wrong++;
            if (wrong <= 40) {
                System.out.println(call + " answered " + got + ", due is " + want);
            }
        }
    }

    static void same(String what, String got, String want) {
        asked++;
        if (!got.equals(want)) {
            wrong++;
            if (wrong <= 40) {
                System.out.println(what + ":\n" + got + "\nfrom:\n" + want);
            }
        }
    }

    static boolean anyWrong() {
        return wrong > 0;
    }

    static void end() {
        System.out.println(asked + " answers, " + wrong + " wrong");
        if (wrong > 0) {
            System.exit(1);
        }
    }

    /** Lays a text on a shelf, byte by byte. */
    static void text(BackByNoonOnMonday x, int d, String text) {
        due("row for a text", x.row(d, 0, text.length()), 0);
        for (int i = 0; i < text.length(); i++) {
            due("put of a text", x.put(d, i, text.charAt(i)), 0);
        }
    }

    /** Lays a row of numbers on a shelf. */
    static void numbers(BackByNoonOnMonday x, int d, int sort, int... numbers) {
        due("row for numbers", x.row(d, sort, numbers.length), 0);
        for (int i = 0; i < numbers.length; i++) {
            due("put of a number", x.put(d, i, numbers[i]), 0);
        }
    }

    /** Tells a text on shelf 7: the answer of shop. */
    static int told(BackByNoonOnMonday x, String text) {
        text(x, 7, text);
        return x.shop(7);
    }

    /** A new object that has been told a text without fault. */
    static BackByNoonOnMonday shopOf(String text) {
        BackByNoonOnMonday x = new BackByNoonOnMonday();
        int statements = 0;
        for (int i = 0; i < text.length(); i++) {
            statements += text.charAt(i) == ';' ? 1 : 0;
        }
        due("shop of " + text, told(x, text), statements);
        return x;
    }

    /** SUITS of these KINDS, FIGURE 0, SIZE 10, all DIRTY; HOUR is 0. */
    static BackByNoonOnMonday dirty(int... kinds) {
        BackByNoonOnMonday x = new BackByNoonOnMonday();
        x.books(10, 0, 0);
        for (int s = 0; s < kinds.length; s++) {
            x.keep(0, 1, kinds[s], 0);
            due("buys", x.buys(0, 10), s);
            x.hires(s, 0);
            due("returns", x.returns(s), 0);
        }
        return x;
    }

    /** What element throws: 1 IllegalArgumentException, 2 IllegalStateException, 0 nothing. */
    static int thrownByElement(BackByNoonOnMonday x, int d, int i) {
        try {
            x.element(d, i);
            return 0;
        } catch (IllegalArgumentException noShelf) {
            return 1;
        } catch (IllegalStateException noPlace) {
            return 2;
        }
    }
}
