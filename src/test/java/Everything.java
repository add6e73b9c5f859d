/** All that can be told of an object, so that two of its moments can be held against each other. */
final class Everything {
    /** A call of the face. */
    interface Call {
        long on(BackByNoonOnMonday x);
    }

    /** Makes the same object each time. */
    interface Maker {
        BackByNoonOnMonday make();
    }

    private Everything() {
    }

    /** Some ninety calls for a shop of three suits and three bookings; none of them changes anything. */
    static String of(BackByNoonOnMonday x) {
        StringBuilder all = new StringBuilder();
        for (int what = 0; what < 8; what++) {
            all.append(x.count(what)).append(' ');
        }
        for (int s = 0; s < x.count(0); s++) {
            all.append("\nsuit");
            for (int what = 0; what < 9; what++) {
                all.append(' ').append(x.suit(s, what));
            }
        }
        for (int b = 0; b < x.count(1); b++) {
            all.append("\nbooking");
            for (int what = 0; what < 6; what++) {
                all.append(' ').append(x.booking(b, what));
            }
        }
        shelves(x, all);
        return all.toString();
    }

    private static void shelves(BackByNoonOnMonday x, StringBuilder all) {
        boolean[] isRow = new boolean[8];
        for (int d = 0; d < 8; d++) {
            int cost = x.cost(d);
            isRow[d] = cost == -12;
            all.append("\nshelf ").append(cost);
            if (isRow[d]) {
                elements(x, d, all);
            } else if (cost >= 0) {
                all.append(' ').append(x.toss(d));
            }
        }
        all.append("\nof one sort");
        for (int d = 0; d < 8; d++) {
            for (int e = d + 1; e < 8; e++) {
                if (isRow[d] && isRow[e]) {
                    all.append(' ').append(x.copy(d, 0, e, 0, 0));
                }
            }
        }
    }

    private static void elements(BackByNoonOnMonday x, int d, StringBuilder all) {
        try {
            for (int i = 0; i <= 100; i++) {
                all.append(' ').append(x.element(d, i));
            }
        } catch (IllegalStateException behindTheLast) {
            all.append("end");
        }
    }

    /** The call answers so, and leaves everything as it was: what is held now, and THE IMAGE. */
    static void stays(String name, Maker maker, long due, Call call) {
        BackByNoonOnMonday x = maker.make();
        String before = of(x);
        Check.due(name, call.on(x), due);
        Check.same(name + " changed", of(x), before);
        BackByNoonOnMonday other = maker.make();
        int hour = other.restore();
        Check.due(name + ", then the image", x.restore(), hour);
        Check.same(name + " changed the image", of(x), of(other));
    }

    /** Numbers just outside of least .. most, and as far outside as can be. */
    static int[] outside(int least, int most) {
        return new int[] {least - 1, most + 1, Integer.MIN_VALUE, Integer.MAX_VALUE};
    }
}
