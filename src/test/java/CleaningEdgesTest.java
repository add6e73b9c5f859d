/** The edges of promises 22 to 28: cleaning, fees. One test for each sentence that names one. */
public final class CleaningEdgesTest {
    public static void main(String[] args) {
        readyNothingTold();
        readyAsManyAsSuits();
        readyHoursZeroAndMost();
        readyByTheVeryHour();
        readyLeastNumberIsSkipped();
        readyNotDirtyNeverMind();
        readyNotToldNeverMind();
        readyOfSeveralTheLeast();
        readyByHoursThenNumbers();
        readyHoursForAll();
        readyAllSeven();
        feeWhoComes();
        feeZeroAtLeast();
        feeOfOne();
        feeOfAll();
        bestFeeOfEachLateness();
        bestFeeOfSeveralTheLeast();
        atFiveMoreThan();
        atFiveEnds();
        taxiMoreThan();
        taxiEnds();
        fridayNoPair();
        fridayWouldFit();
        fridayAllSeven();
        fridayTheFirst();
        tightWouldNotFitAnyMore();
        tightHaveNone();
        tightAllSeven();
        Check.end();
    }

    private static void ready(String name, BackByNoonOnMonday x, int many, int first, int... hours) {
        for (int sort = 0; sort < 3; sort++) {
            Check.numbers(x, 6, sort, hours);
            Check.due(name + ", how many", x.ready(6, 0), many);
            Check.due(name + ", the first", x.ready(6, 1), first);
        }
    }

    /** A ROW without elements. */
    private static void readyNothingTold() {
        ready("nothing told, no suit", new BackByNoonOnMonday(), 0, -4);
        BackByNoonOnMonday x = Check.dirty(0, 4);
        ready("nothing told", x, 0, -4);
        Check.due("hours for all", x.ready(6, 2), 11);
        x = new BackByNoonOnMonday();
        x.row(6, 0, 0);
        Check.due("hours for none", x.ready(6, 2), 0);
        x.row(6, 0, 1);
        Check.due("one number, no suit", x.ready(6, 2), -13);
    }

    /** "-13 (more numbers than SUITS ...)": as many are allowed. */
    private static void readyAsManyAsSuits() {
        for (int suits = 1; suits <= 7; suits++) {
            BackByNoonOnMonday x = new BackByNoonOnMonday();
            x.keep(0, 1, 0, 0);
            for (int s = 0; s < suits; s++) {
                x.buys(0, 10);
            }
            ready("as many as suits", x, 0, -4, new int[suits]);
            for (int sort = 0; sort < 3; sort++) {
                x.row(6, sort, suits + 1);
                Check.due("one more", x.ready(6, 0), -13);
                Check.due("one more, the first", x.ready(6, 1), -13);
                Check.due("one more, hours", x.ready(6, 2), -13);
                x.row(6, sort, 100);
                Check.due("a hundred", x.ready(6, 0), -13);
            }
        }
    }

    /** "from now (0 .. 99)". */
    private static void readyHoursZeroAndMost() {
        BackByNoonOnMonday x = Check.dirty(0, 0);
        ready("0 and 99", x, 1, 1, 0, 99);
        ready("99 and 0", x, 1, 0, 99, 0);
        ready("both 0", x, 0, -4, 0, 0);
        ready("both 99", x, 2, 0, 99, 99);
        ready("100", x, -13, -13, 99, 100);
        ready("-1", x, -13, -13, -1, 99);
    }

    /** "by which hour": the very hour is in time, cleaned alone or behind others. */
    private static void readyByTheVeryHour() {
        int[] cleans = {3, 4, 3, 2, 8, 3, 2, 4};
        for (int k = 0; k < 8; k++) {
            BackByNoonOnMonday x = Check.dirty(k);
            ready("just in time, KIND " + k, x, 1, 0, cleans[k]);
            ready("an hour too late, KIND " + k, x, 0, -4, cleans[k] - 1);
        }
        BackByNoonOnMonday x = Check.dirty(0, 1, 3);
        ready("3, 7, 9", x, 3, 0, 3, 7, 9);
        ready("3, 7, 8", x, 2, 0, 3, 7, 8);
        ready("3, 6, 9", x, 2, 0, 3, 6, 9);
        ready("2, 7, 9", x, 2, 1, 2, 7, 9);
    }

    /** "the least number of the SORT is skipped": not that of another SORT. */
    private static void readyLeastNumberIsSkipped() {
        int[] least = {-128, -32768, Integer.MIN_VALUE};
        for (int sort = 0; sort < 3; sort++) {
            BackByNoonOnMonday x = Check.dirty(0, 0);
            Check.numbers(x, 6, sort, least[sort], 3);
            Check.due("the first skipped", x.ready(6, 0), 1);
            Check.due("the other is first", x.ready(6, 1), 1);
            Check.due("hours for both", x.ready(6, 2), 6);
            Check.numbers(x, 6, sort, least[sort], least[sort]);
            Check.due("both skipped", x.ready(6, 0), 0);
            Check.due("none is first", x.ready(6, 1), -4);
            Check.numbers(x, 6, sort, least[sort] + 1, 3);
            Check.due("1 more than the least", x.ready(6, 0), -13);
            if (sort > 0) {
                Check.numbers(x, 6, sort, least[sort - 1], 3);
                Check.due("the least of another", x.ready(6, 0), -13);
            }
            Check.numbers(x, 6, sort, least[sort], least[sort], least[sort]);
            Check.due("more numbers than suits, all skipped", x.ready(6, 0), -13);
        }
    }

    /** "those not DIRTY ... never mind": their hours are 0 .. 99, though. */
    private static void readyNotDirtyNeverMind() {
        BackByNoonOnMonday x = Check.dirty(0, 0, 0);
        x.cleans(0);
        x.cleans(1);
        x.hires(1, 0);
        ready("IN and OUT ones", x, 1, 2, 0, 0, 3);
        ready("too late", x, 0, -4, 99, 99, 2);
        Check.due("hours for the one", x.ready(6, 2), 3);
        ready("100 of an IN one", x, -13, -13, 100, 0, 3);
        ready("100 of an OUT one", x, -13, -13, 0, 100, 3);
        x.cleans(2);
        ready("none DIRTY", x, 0, -4, 99, 99, 99);
        Check.due("hours for none", x.ready(6, 2), 0);
    }

    /** "those it does not tell, never mind". */
    private static void readyNotToldNeverMind() {
        BackByNoonOnMonday x = Check.dirty(0, 4, 4);
        ready("one is told", x, 1, 0, 3);
        ready("two are", x, 2, 0, 3, 11);
        Check.due("hours for all three", x.ready(6, 2), 19);
    }

    /** "(bits, of several the least)". */
    private static void readyOfSeveralTheLeast() {
        BackByNoonOnMonday x = Check.dirty(0, 0, 0);
        ready("any one: the least", x, 1, 0, 3, 3, 3);
        ready("any two: 0 and 1", x, 2, 1, 6, 5, 6);
        ready("0 and 1 (3), not 1 and 2 (6)", x, 2, 0, 6, 6, 5);
        ready("1 and 2 alone", x, 2, 2, 2, 6, 5);
        x = Check.dirty(4, 0, 0);
        // 0 goes with neither by 8: 1 and 2 are more.
        ready("two are more than one of less bits", x, 2, 1, 8, 8, 8);
    }

    /** "by hours told, then numbers". */
    private static void readyByHoursThenNumbers() {
        BackByNoonOnMonday x = Check.dirty(0, 1, 0);
        ready("equal hours: the least number", x, 3, 0, 50, 50, 50);
        ready("the last by hours", x, 3, 2, 50, 50, 49);
        ready("1 and 2 alike", x, 3, 1, 50, 49, 49);
    }

    /** "hours for all DIRTY ones": whatever the ROW tells. */
    private static void readyHoursForAll() {
        BackByNoonOnMonday x = new BackByNoonOnMonday();
        x.books(10, 0, 0);
        x.keep(0, 1, 7, 9);
        for (int s = 0; s < 7; s++) {
            x.buys(0, 10);
            x.hires(s, 0);
            x.returns(s);
        }
        Check.numbers(x, 6, 0, 0);
        Check.due("seven times 13", x.ready(6, 2), 91);
        Check.due("none by then", x.ready(6, 0), 0);
        Check.numbers(x, 6, 0, 91, 91, 91, 91, 91, 91, 91);
        Check.due("all by 91", x.ready(6, 0), 7);
        Check.numbers(x, 6, 0, 90, 90, 90, 90, 90, 90, 90);
        Check.due("not all by 90", x.ready(6, 0), 6);
        Check.due("hours stay", x.ready(6, 2), 91);
        Check.due("HOUR stays", x.count(3), 0);
    }

    private static void readyAllSeven() {
        BackByNoonOnMonday x = Check.dirty(0, 0, 0, 0, 0, 0, 0);
        ready("the last alone", x, 1, 6, 2, 2, 2, 2, 2, 2, 3);
        ready("backwards", x, 7, 6, 21, 18, 15, 12, 9, 6, 3);
        ready("forwards", x, 7, 0, 3, 6, 9, 12, 15, 18, 21);
        ready("all by 20 but one", x, 6, 0, 20, 20, 20, 20, 20, 20, 20);
    }

    private static BackByNoonOnMonday late(int... tenths) {
        BackByNoonOnMonday x = new BackByNoonOnMonday();
        for (int late : tenths) {
            x.books(0, 0, 909 + 10 * late);
        }
        return x;
    }

    /** "whose LATE is f by 5, cut, or more". */
    private static void feeWhoComes() {
        BackByNoonOnMonday x = late(0, 1, 2, 3, 4, 9);
        for (int f = 0; f <= 20; f++) {
            int due = f < 5 ? 63 : f < 10 ? 62 : f < 15 ? 60 : f < 20 ? 56 : 48;
            Check.due("who comes with " + f, x.fee(f, 1), due);
        }
        for (int f = 0; f <= 20; f++) {
            Check.due("nobody at all", new BackByNoonOnMonday().fee(f, 1), 0);
            Check.due("no tenths at all", new BackByNoonOnMonday().fee(f, 0), 0);
        }
    }

    /** "their LATE is f by 4, cut, less then (0 at least)". */
    private static void feeZeroAtLeast() {
        BackByNoonOnMonday x = late(0, 9);
        Check.due("fee 3", x.fee(3, 0), 27);
        Check.due("0 less 1 is 0", x.fee(4, 0), 32);
        x = late(1, 9);
        Check.due("1 less 1", x.fee(7, 0), 56);
        Check.due("1 less 2 is 0", x.fee(8, 0), 56);
        x = late(3, 9);
        Check.due("3 less 4 is 0", x.fee(16, 0), 80);
        Check.due("4 less 5 is 0", late(4, 9).fee(20, 0), 80);
    }

    /** FEE 0 to 20 for one of each LATE: f by 5 and f by 4, cut, by hand. */
    private static void feeOfOne() {
        int[] less = {0, 0, 0, 0, 1, 1, 1, 1, 2, 2, 2, 2, 3, 3, 3, 3, 4, 4, 4, 4, 5};
        int[] least = {0, 0, 0, 0, 0, 1, 1, 1, 1, 1, 2, 2, 2, 2, 2, 3, 3, 3, 3, 3, 4};
        for (int f = 0; f <= 20; f++) {
            Check.due("fee " + f, late(9).fee(f, 0), f * (9 - less[f]));
        }
        for (int lateness = 0; lateness <= 9; lateness++) {
            for (int f = 0; f <= 20; f++) {
                boolean comes = lateness >= least[f];
                int tenths = Math.max(0, lateness - less[f]);
                Check.due("comes with " + f, late(lateness).fee(f, 1), comes ? 1 : 0);
                Check.due("tenths with " + f, late(lateness).fee(f, 0), comes ? f * tenths : 0);
            }
        }
    }

    /** "f for each tenth of that, all together": those that HAVE a SUIT, too. */
    private static void feeOfAll() {
        BackByNoonOnMonday x = late(9, 9, 9, 9, 9, 9, 9);
        Check.due("seven with 20", x.fee(20, 0), 560);
        Check.due("all come", x.fee(20, 1), 127);
        Check.due("seven with 19", x.fee(19, 0), 665);
        Check.due("seven with 0", x.fee(0, 0), 0);
        x.keep(0, 1, 0, 0);
        x.buys(0, 0);
        x.hires(0, 6);
        Check.due("who HAS one, too", x.fee(19, 0), 665);
        Check.due("is told, too", x.fee(19, 1), 127);
    }

    /** For one BOOKING of each LATE: the best of all 21, of several the least. */
    private static void bestFeeOfEachLateness() {
        for (int lateness = 0; lateness <= 9; lateness++) {
            int best = 0;
            int most = 0;
            for (int f = 0; f <= 20; f++) {
                int tenths = lateness >= f / 5 && lateness > f / 4 ? f * (lateness - f / 4) : 0;
                if (tenths > most) {
                    most = tenths;
                    best = f;
                }
            }
            Check.due("LATE " + lateness, late(lateness).bestFee(), best);
        }
        Check.due("LATE 9 by hand", late(9).bestFee(), 19);
        Check.due("LATE 1 by hand", late(1).bestFee(), 3);
    }

    /** "with the most, of several the least". */
    private static void bestFeeOfSeveralTheLeast() {
        int[][] lates = {{1, 1, 2, 3}, {2, 2, 3, 8}, {3, 4, 7, 9}};
        int[][] alike = {{21, 3, 7}, {77, 7, 11}, {165, 11, 15}};
        for (int i = 0; i < lates.length; i++) {
            BackByNoonOnMonday x = late(lates[i]);
            Check.due("the lesser", x.fee(alike[i][1], 0), alike[i][0]);
            Check.due("as many with the greater", x.fee(alike[i][2], 0), alike[i][0]);
            Check.due("the lesser is best", x.bestFee(), alike[i][1]);
        }
        Check.due("all bring nothing: 0", late(0, 0, 0).bestFee(), 0);
        Check.due("nobody: 0", late().bestFee(), 0);
    }

    /** "q more than c tenths of p": not as much; by a tenth it is. */
    private static void atFiveMoreThan() {
        BackByNoonOnMonday x = new BackByNoonOnMonday();
        for (int c = 0; c <= 10; c++) {
            Check.due("as much, c " + c, x.atFive(c, 90, 9 * c), 0);
            Check.due("1 more, c " + c, x.atFive(c, 90, 9 * c + 1), 1);
            Check.due("a tenth of p more, c " + c, x.atFive(c, 89, 9 * c), c == 0 ? 0 : 1);
            Check.due("a tenth of p less, c " + c, x.atFive(c, 91, 9 * c), 0);
        }
    }

    /** "c tenths (0 .. 10)", "(p, q not 0 .. 99)": the ends of each. */
    private static void atFiveEnds() {
        BackByNoonOnMonday x = new BackByNoonOnMonday();
        Check.due("0, 0, 0", x.atFive(0, 0, 0), 0);
        Check.due("0, 0, 1", x.atFive(0, 0, 1), 1);
        Check.due("0, 99, 0", x.atFive(0, 99, 0), 0);
        Check.due("0, 99, 1", x.atFive(0, 99, 1), 1);
        Check.due("10, 0, 0", x.atFive(10, 0, 0), 0);
        Check.due("10, 0, 1", x.atFive(10, 0, 1), 1);
        Check.due("10, 99, 99", x.atFive(10, 99, 99), 0);
        Check.due("10, 98, 99", x.atFive(10, 98, 99), 1);
        Check.due("10, 99, 98", x.atFive(10, 99, 98), 0);
        Check.due("9, 99, 90", x.atFive(9, 99, 90), 1);
        Check.due("9, 99, 89", x.atFive(9, 99, 89), 0);
        Check.due("11", x.atFive(11, 0, 99), -1);
        Check.due("-1", x.atFive(-1, 0, 99), -1);
        Check.due("p 100", x.atFive(0, 100, 99), -1);
        Check.due("p -1", x.atFive(0, -1, 99), -1);
        Check.due("q 100", x.atFive(0, 0, 100), -1);
        Check.due("q -1", x.atFive(0, 0, -1), -1);
    }

    private static BackByNoonOnMonday out(int late) {
        BackByNoonOnMonday x = new BackByNoonOnMonday();
        x.keep(0, 1, 0, 0);
        x.buys(0, 10);
        x.books(10, 0, 909);
        x.books(10, 0, 909 + 10 * late);
        Check.due("hired", x.hires(0, 1), 10);
        return x;
    }

    /** "LATE tenths of h are more than t": not as many; by a tenth they are. */
    private static void taxiMoreThan() {
        for (int late = 0; late <= 9; late++) {
            BackByNoonOnMonday x = out(late);
            Check.due("as many, LATE " + late, x.taxi(0, 8 * late, 80), 0);
            Check.due("a tenth of h more, LATE " + late, x.taxi(0, 8 * late, 81), late == 0 ? 0 : 1);
            Check.due("a tenth of h less, LATE " + late, x.taxi(0, 8 * late, 79), 0);
            if (late > 0) {
                Check.due("1 less, LATE " + late, x.taxi(0, 8 * late - 1, 80), 1);
            }
        }
    }

    /** "t now (0 .. 99), lateness h (0 .. 999)": the ends of each. */
    private static void taxiEnds() {
        BackByNoonOnMonday x = out(9);
        Check.due("0, 0", x.taxi(0, 0, 0), 0);
        Check.due("0, 1", x.taxi(0, 0, 1), 1);
        Check.due("99, 0", x.taxi(0, 99, 0), 0);
        Check.due("99, 110", x.taxi(0, 99, 110), 0);
        Check.due("99, 111", x.taxi(0, 99, 111), 1);
        Check.due("99, 999", x.taxi(0, 99, 999), 1);
        Check.due("0, 999", x.taxi(0, 0, 999), 1);
        Check.due("LATE 0 is never", out(0).taxi(0, 0, 999), 0);
        Check.due("LATE 1: 99.9 is more than 99", out(1).taxi(0, 99, 999), 1);
        Check.due("LATE 1: 99 is not", out(1).taxi(0, 99, 990), 0);
        Check.due("t 100", x.taxi(0, 100, 999), -1);
        Check.due("h 1000", x.taxi(0, 0, 1000), -1);
        Check.due("no suit 1", x.taxi(1, 0, 999), -1);
        x.returns(0);
        Check.due("not OUT", x.taxi(0, 0, 999), -3);
    }

    /** "pairs of BOOKINGS that HAVE SUITS": none, one that HAS one, sizes of 0 without any. */
    private static void fridayNoPair() {
        BackByNoonOnMonday x = new BackByNoonOnMonday();
        Check.due("nobody", x.friday(0), 0);
        Check.due("nobody first", x.friday(1), -4);
        x = Check.shopOf("s000000;s000000;b000000;b000000;b000000;");
        Check.due("none HAS one", x.friday(0), 0);
        Check.due("none first", x.friday(1), -4);
        x.hires(0, 0);
        Check.due("one HAS one", x.friday(0), 0);
        Check.due("still none first", x.friday(1), -4);
        x.hires(1, 1);
        Check.due("two HAVE one", x.friday(0), 1);
        Check.due("the first", x.friday(1), 1);
        x.returns(0);
        Check.due("one alone again", x.friday(0), 0);
    }

    /** "which would FIT, too, if they changed": both of them. */
    private static void fridayWouldFit() {
        BackByNoonOnMonday x = Check.shopOf("s001000;s001100;b100000;b110000;h00;h11;");
        Check.due("both would", x.friday(0), 1);
        x = Check.shopOf("s001000;s001200;b100000;b110000;h00;h11;");
        Check.due("12 is too far from 10", x.friday(0), 0);
        x = Check.shopOf("s001000;s001100;b100000;b120000;h00;h11;");
        Check.due("10 is too far from 12", x.friday(0), 0);
        x = Check.shopOf("s401000;s001000;b100000;b110000;h00;h11;");
        Check.due("SILK would not", x.friday(0), 0);
        x = Check.shopOf("s401000;s001100;b100000;b100000;h00;h11;");
        Check.due("SILK would", x.friday(0), 1);
    }

    private static void fridayAllSeven() {
        BackByNoonOnMonday x = new BackByNoonOnMonday();
        x.keep(0, 1, 0, 0);
        for (int i = 0; i < 7; i++) {
            x.buys(0, 10);
            x.books(10, 0, 0);
            x.hires(i, i);
        }
        Check.due("21 pairs", x.friday(0), 21);
        Check.due("0 and 1", x.friday(1), 1);
        for (int i = 0; i < 5; i++) {
            x.returns(i);
        }
        Check.due("the last pair", x.friday(0), 1);
        Check.due("5 and 6", x.friday(1), 56);
    }

    /** "the first (10 the lesser and the other)". */
    private static void fridayTheFirst() {
        BackByNoonOnMonday x = Check.shopOf("s001000;s001000;s001000;s001000;b100000;b100000;b100000;b100000;h02;h11;h23;");
        Check.due("1 and 2, 1 and 3, 2 and 3", x.friday(0), 3);
        Check.due("1 and 2", x.friday(1), 12);
        x.returns(1);
        Check.due("2 and 3", x.friday(1), 23);
        x.hires(3, 0);
        Check.due("0 and 2", x.friday(1), 2);
    }

    /** "whose SUIT would not FIT any more, were they 1 more". */
    private static void tightWouldNotFitAnyMore() {
        int[] gives = {1, 1, 2, 1, 0, 4, 1, 1};
        for (int k = 0; k < 8; k++) {
            for (int more = -gives[k]; more <= gives[k]; more++) {
                BackByNoonOnMonday x = new BackByNoonOnMonday();
                x.keep(0, 1, k, 0);
                x.buys(0, 10);
                x.books(10 + more, 0, 0);
                Check.due("not yet", x.tight(), 0);
                x.hires(0, 0);
                Check.due("KIND " + k + ", " + more + " more", x.tight(), more == gives[k] ? 1 : 0);
                x.returns(0);
                Check.due("no more", x.tight(), 0);
            }
        }
    }

    /** Who HAS none is not tight, at any SIZE. */
    private static void tightHaveNone() {
        BackByNoonOnMonday x = Check.shopOf("s000000;s002000;b000000;b010000;b100000;b190000;b200000;");
        Check.due("none HAS one", x.tight(), 0);
        x.hires(0, 1);
        Check.due("1 in a suit of 0", x.tight(), 2);
        x.hires(1, 3);
        Check.due("19 in a suit of 20", x.tight(), 2);
        Check.due("nobody at all", new BackByNoonOnMonday().tight(), 0);
    }

    private static void tightAllSeven() {
        BackByNoonOnMonday x = new BackByNoonOnMonday();
        x.keep(0, 1, 4, 0);
        for (int i = 0; i < 7; i++) {
            x.buys(0, i);
            x.books(i, 0, 0);
            x.hires(i, i);
            Check.due("all so far", x.tight(), (2 << i) - 1);
        }
        Check.due("all", x.tight(), 127);
    }
}
