/** The edges that the Terms name, and promises 1 and 3 to 9: one test for each sentence. */
public final class TermsEdgesTest {
    private static final String[] KINDS = {"SUIT", "BLACK", "WIDE", "MIXED", "SILK", "STRETCH", "SHINY", "VELVET"};
    private static final int[] UNDER = {-1, 0, 0, 0, 1, 2, 3, 1};

    public static void main(String[] args) {
        aNewObject();
        sevenSuits();
        sevenSuitsByText();
        sevenBookings();
        sevenBookingsByText();
        everyKindAndFigure();
        cutIsTowardZero();
        sizes();
        groups();
        tenths();
        wornAtFirst();
        wornAtMost();
        noFartherApartThanItGives();
        sizesAtTheEnds();
        hiredWhatOthersHave();
        backAndHiredAgain();
        penceAtFirst();
        penceAtMost();
        hourAtMost();
        Check.end();
    }

    /** "No SUITS, no BOOKINGS"; "at first" of PENCE, HOUR and the SHELVES. */
    private static void aNewObject() {
        BackByNoonOnMonday x = new BackByNoonOnMonday();
        for (int what = 0; what < 8; what++) {
            Check.due("count " + what + " of a new one", x.count(what), 0);
        }
        Check.due("no suit 0", x.suit(0, 0), -1);
        Check.due("no booking 0", x.booking(0, 0), -1);
        Check.due("none to hire", x.hires(0, 0), -1);
        Check.due("none to return", x.returns(0), -1);
        Check.due("none to clean", x.cleans(0), -1);
        Check.due("none to fit", x.fits(0, 0), -1);
        Check.due("none to send for", x.taxi(0, 0, 0), -1);
        for (int d = 0; d < 8; d++) {
            Check.due("nothing on shelf " + d, x.toss(d), -11);
        }
    }

    /** "SUITS 0 .. 6 as they come (7 at most)". */
    private static void sevenSuits() {
        BackByNoonOnMonday x = new BackByNoonOnMonday();
        for (int s = 0; s < 7; s++) {
            x.keep(0, 1, s, s);
            Check.due("suit as they come", x.buys(0, s), s);
        }
        Check.due("an eighth", x.buys(0, 0), -2);
        for (int s = 0; s < 7; s++) {
            Check.due("kind of " + s, x.suit(s, 0), s);
            Check.due("figure of " + s, x.suit(s, 1), s);
            Check.due("size of " + s, x.suit(s, 2), s);
        }
        Check.due("no suit 7", x.suit(7, 0), -1);
        Check.due("all are IN", x.count(4), 127);
    }

    private static void sevenSuitsByText() {
        BackByNoonOnMonday x = new BackByNoonOnMonday();
        Check.due("seven", Check.told(x, "s000010;s110111;s220212;s330313;s440414;s550515;s660616;"), 7);
        Check.due("an eighth", Check.told(x, "s770717;"), -2000);
        for (int s = 0; s < 7; s++) {
            for (int what = 0; what < 3; what++) {
                Check.due("suit " + s + " what " + what, x.suit(s, what), s);
            }
            Check.due("worn of " + s, x.suit(s, 3), 10 + s);
        }
        x = new BackByNoonOnMonday();
        Check.due("eight at once", Check.told(x, "s000000;s000000;s000000;s000000;s000000;s000000;s000000;s000000;"), -2056);
        Check.due("none came", x.count(0), 0);
    }

    /** "BOOKINGS 0 .. 6 as they come (7 at most)". */
    private static void sevenBookings() {
        BackByNoonOnMonday x = new BackByNoonOnMonday();
        for (int b = 0; b < 7; b++) {
            Check.due("booking as they come", x.books(20 - b, b % 4, 111 * b), b);
        }
        Check.due("an eighth", x.books(0, 0, 0), -2);
        for (int b = 0; b < 7; b++) {
            int[] due = {20 - b, b % 4, b, b, b, 9};
            for (int what = 0; what < 6; what++) {
                Check.due("booking " + b + " what " + what, x.booking(b, what), due[what]);
            }
        }
        Check.due("no booking 7", x.booking(7, 0), -1);
    }

    private static void sevenBookingsByText() {
        BackByNoonOnMonday x = new BackByNoonOnMonday();
        Check.due("seven", Check.told(x, "b200000;b191111;b182222;b173333;b160444;b151555;b142666;"), 7);
        for (int b = 0; b < 7; b++) {
            int[] due = {20 - b, b % 4, b, b, b, 9};
            for (int what = 0; what < 6; what++) {
                Check.due("told booking " + b + " what " + what, x.booking(b, what), due[what]);
            }
        }
        Check.due("an eighth", Check.told(x, "b000000;"), -2000);
        x = new BackByNoonOnMonday();
        Check.due("eight at once", Check.told(x, "b000000;b000000;b000000;b000000;b000000;b000000;b000000;b000000;"), -2056);
        Check.due("none came", x.count(1), 0);
    }

    /** PRICE, GIVES, CLEANS, LASTS and COST as the document tells them: of what one is under, then what is more. */
    private static int told(String what, int k, int figure) {
        int under = UNDER[k] < 0 ? 0 : told(what, UNDER[k], figure);
        switch (what + " " + KINDS[k]) {
            case "PRICE SUIT": return 10 + figure;
            case "PRICE BLACK": return under + 5;
            case "PRICE WIDE": return under - 2;
            case "PRICE MIXED": return under / 2;
            case "PRICE SILK": return 2 * under;
            case "PRICE STRETCH": return under + figure;
            case "PRICE SHINY": return under - 1;
            case "PRICE VELVET": return under + 3;
            case "GIVES SUIT": return 1;
            case "GIVES WIDE": return under + 1;
            case "GIVES SILK": return 0;
            case "GIVES STRETCH": return under + 2;
            case "CLEANS SUIT": return 3;
            case "CLEANS BLACK": return under + 1;
            case "CLEANS MIXED": return under - 1;
            case "CLEANS SILK": return 2 * under;
            case "CLEANS VELVET": return under + figure;
            case "LASTS SUIT": return 20 + figure;
            case "LASTS SILK": return under / 2;
            case "LASTS SHINY": return under - 15;
            case "COST SUIT": return 4;
            case "COST BLACK": return under + figure;
            case "COST WIDE": return under - 2;
            case "COST MIXED": return under + 1;
            case "COST SILK": return 2 * under;
            case "COST STRETCH": return under + figure;
            case "COST SHINY": return under / 2;
            case "COST VELVET": return under + 3;
            default: return under;
        }
    }

    /** Each KIND (0 .. 7) with each FIGURE (0 .. 9): what it has, bought and told by a text alike. */
    private static void everyKindAndFigure() {
        String[] names = {"PRICE", "GIVES", "CLEANS", "LASTS"};
        for (int k = 0; k < 8; k++) {
            for (int figure = 0; figure < 10; figure++) {
                BackByNoonOnMonday x = new BackByNoonOnMonday();
                Check.due("keep", x.keep(0, 1, k, figure), 0);
                Check.due("buys", x.buys(0, 0), 0);
                Check.due("tells", Check.told(x, "s" + k + figure + "0000;"), 1);
                for (int s = 0; s < 2; s++) {
                    Check.due("KIND", x.suit(s, 0), k);
                    Check.due("FIGURE", x.suit(s, 1), figure);
                    for (int i = 0; i < 4; i++) {
                        String name = names[i] + " of a " + KINDS[k] + " of " + figure;
                        Check.due(name, x.suit(s, 5 + i), told(names[i], k, figure));
                    }
                }
                Check.due("COST of a " + KINDS[k] + " of " + figure, x.cost(0), told("COST", k, figure));
            }
        }
    }

    /** "half of a SUIT's, cut", "half of a BLACK's, cut": of an odd one the lesser. */
    private static void cutIsTowardZero() {
        BackByNoonOnMonday x = Check.shopOf("s310000;s300000;s610000;s410000;s490000;s400000;");
        Check.due("half of 11", x.suit(0, 5), 5);
        Check.due("half of 10", x.suit(1, 5), 5);
        Check.due("half of 11, 1 less", x.suit(2, 5), 4);
        Check.due("half of 21", x.suit(3, 8), 10);
        Check.due("half of 29", x.suit(4, 8), 14);
        Check.due("half of 20", x.suit(5, 8), 10);
        x.keep(0, 1, 6, 0);
        Check.due("half of 5", x.cost(0), 2);
    }

    /** "a SIZE (0 .. 20)" of SUITS and BOOKINGS. */
    private static void sizes() {
        BackByNoonOnMonday x = Check.shopOf("s000000;s002000;b000000;b200000;");
        x.keep(0, 1, 0, 0);
        Check.due("buys size 0", x.buys(0, 0), 2);
        Check.due("buys size 20", x.buys(0, 20), 3);
        Check.due("books size 0", x.books(0, 0, 0), 2);
        Check.due("books size 20", x.books(20, 0, 0), 3);
        for (int i = 0; i < 4; i++) {
            Check.due("size of suit " + i, x.suit(i, 2), i % 2 * 20);
            Check.due("size of booking " + i, x.booking(i, 0), i % 2 * 20);
        }
        Check.due("a suit of 21", x.buys(0, 21), -1);
        Check.due("a booking of 21", x.books(21, 0, 0), -1);
        Check.due("a suit of 21 told", Check.told(x, "s002100;"), -2000);
        Check.due("a booking of 21 told", Check.told(x, "b210000;"), -2000);
    }

    /** "a GROUP (0 .. 3; 0 none)". */
    private static void groups() {
        BackByNoonOnMonday x = Check.shopOf("b000000;b003000;");
        Check.due("group 0", x.books(0, 0, 0), 2);
        Check.due("group 3", x.books(0, 3, 0), 3);
        for (int b = 0; b < 4; b++) {
            Check.due("group of " + b, x.booking(b, 1), b % 2 * 3);
        }
        Check.due("group 4", x.books(0, 4, 0), -1);
        Check.due("group -1", x.books(0, -1, 0), -1);
        Check.due("group 4 told", Check.told(x, "b004000;"), -2000);
    }

    /** "GROWS, LATE, ABSENT (tenths, 0 .. 9 each)"; "odds: 100 GROWS, 10 LATE and ABSENT". */
    private static void tenths() {
        int[][] tenths = {{0, 0, 0}, {9, 9, 9}, {9, 0, 0}, {0, 9, 0}, {0, 0, 9}, {1, 2, 3}, {9, 8, 7}};
        BackByNoonOnMonday x = new BackByNoonOnMonday();
        for (int b = 0; b < 7; b++) {
            int[] t = tenths[b];
            Check.due("books", x.books(1, 1, 100 * t[0] + 10 * t[1] + t[2]), b);
            Check.due("GROWS", x.booking(b, 2), t[0]);
            Check.due("LATE", x.booking(b, 3), t[1]);
            Check.due("ABSENT", x.booking(b, 4), t[2]);
        }
    }

    /** "WORN (0 .. 99; 0 at first)", "a STATE: 0 IN (at first)"; THE TEXT tells 0 and 99. */
    private static void wornAtFirst() {
        BackByNoonOnMonday x = Check.shopOf("s000000;s000099;");
        x.keep(0, 1, 0, 0);
        x.buys(0, 0);
        int[] due = {0, 99, 0};
        for (int s = 0; s < 3; s++) {
            Check.due("worn of " + s, x.suit(s, 3), due[s]);
            Check.due("state of " + s, x.suit(s, 4), 0);
        }
        Check.due("all worn", x.count(7), 99);
    }

    /** "WORN 1 more (99 at most)". */
    private static void wornAtMost() {
        BackByNoonOnMonday x = Check.shopOf("s000000;s000097;s000098;s000099;b000000;b000000;b000000;b000000;h00;h11;h22;h33;");
        int[] due = {1, 98, 99, 99};
        for (int s = 0; s < 4; s++) {
            Check.due("worn of " + s, x.suit(s, 3), due[s]);
        }
        x.returns(3);
        x.cleans(3);
        Check.due("pence come, though", x.hires(3, 3), 50);
        Check.due("99 still", x.suit(3, 3), 99);
        Check.due("all worn", x.count(7), 1 + 98 + 99 + 99);
    }

    /** "A SUIT FITS a BOOKING, if SIZES are no farther apart than it GIVES": to either side, each KIND. */
    private static void noFartherApartThanItGives() {
        for (int k = 0; k < 8; k++) {
            int gives = told("GIVES", k, 0);
            BackByNoonOnMonday x = new BackByNoonOnMonday();
            x.keep(0, 1, k, 0);
            x.buys(0, 10);
            x.books(10 - gives - 1, 0, 0);
            x.books(10 - gives, 0, 0);
            x.books(10, 0, 0);
            x.books(10 + gives, 0, 0);
            x.books(10 + gives + 1, 0, 0);
            int[] due = {0, 1, 1, 1, 0};
            for (int b = 0; b < 5; b++) {
                Check.due(KINDS[k] + " fits " + b, x.fits(0, b), due[b]);
                Check.due(KINDS[k] + " is hired by " + b, x.hires(0, b), due[b] == 1 ? told("PRICE", k, 0) : -3);
                if (due[b] == 1) {
                    x = sameAgain(k, gives);
                }
            }
        }
    }

    private static BackByNoonOnMonday sameAgain(int k, int gives) {
        BackByNoonOnMonday x = new BackByNoonOnMonday();
        x.keep(0, 1, k, 0);
        x.buys(0, 10);
        for (int apart : new int[] {-gives - 1, -gives, 0, gives, gives + 1}) {
            x.books(10 + apart, 0, 0);
        }
        return x;
    }

    private static void sizesAtTheEnds() {
        BackByNoonOnMonday x = Check.shopOf("s500000;s502000;s400000;s402000;b000000;b200000;b040000;b160000;b050000;b150000;");
        int[][] due = {{1, 0, 1, 0, 0, 0}, {0, 1, 0, 1, 0, 0}, {1, 0, 0, 0, 0, 0}, {0, 1, 0, 0, 0, 0}};
        for (int s = 0; s < 4; s++) {
            for (int b = 0; b < 6; b++) {
                Check.due("suit " + s + " fits " + b, x.fits(s, b), due[s][b]);
            }
        }
    }

    /** "a SUIT that is IN and FITS goes OUT to a BOOKING that HAS none", the last of each, too. */
    private static void hiredWhatOthersHave() {
        BackByNoonOnMonday x = new BackByNoonOnMonday();
        x.keep(0, 1, 0, 0);
        for (int i = 0; i < 7; i++) {
            x.buys(0, 10);
            x.books(10, 0, 0);
        }
        for (int i = 0; i < 7; i++) {
            Check.due("hired " + i, x.hires(i, 6 - i), 10 * (i + 1));
            Check.due("booking HAS", x.booking(6 - i, 5), i);
            Check.due("it is OUT", x.suit(i, 4), 1);
        }
        Check.due("all are OUT", x.count(5), 127);
        Check.due("none is IN", x.count(4), 0);
        for (int i = 0; i < 7; i++) {
            Check.due("brought back by", x.returns(i), 6 - i);
            Check.due("HAS none", x.booking(6 - i, 5), 9);
            Check.due("it is DIRTY", x.suit(i, 4), 2);
            Check.due("not twice", x.returns(i), -3);
        }
        Check.due("all are DIRTY", x.count(6), 127);
        for (int i = 0; i < 7; i++) {
            Check.due("cleaned " + i, x.cleans(i), 3 * (i + 1));
            Check.due("not twice", x.cleans(i), -3);
        }
        Check.due("all are IN", x.count(4), 127);
    }

    /** "BACK: ... its BOOKING HAS none": it may have another at once; CLEANED: the suit may go out again. */
    private static void backAndHiredAgain() {
        BackByNoonOnMonday x = Check.shopOf("s001000;s001000;b100000;b100000;h00;");
        Check.due("HAS one", x.hires(1, 0), -3);
        Check.due("brought back", x.returns(0), 0);
        Check.due("a DIRTY one", x.hires(0, 0), -3);
        Check.due("another", x.hires(1, 0), 20);
        Check.due("HAS the other", x.booking(0, 5), 1);
        Check.due("cleaned", x.cleans(0), 3);
        Check.due("to the other booking", x.hires(0, 1), 30);
        Check.due("brought back by the other", x.returns(0), 1);
        Check.due("the first HAS its own still", x.booking(0, 5), 1);
    }

    /** "PENCE (0 .. 9999; 0 at first)": what is told and bought brings none. */
    private static void penceAtFirst() {
        BackByNoonOnMonday x = Check.shopOf("s490099;b100000;");
        Check.due("no pence", x.count(2), 0);
        Check.due("no hour", x.count(3), 0);
    }

    /** 333 times three hours, 26 pence each, then seven suits: more than 8972 can not come, and all that come. */
    private static void penceAtMost() {
        BackByNoonOnMonday x = new BackByNoonOnMonday();
        x.keep(0, 1, 5, 9);
        x.buys(0, 10);
        x.keep(0, 1, 4, 9);
        for (int s = 1; s < 7; s++) {
            x.buys(0, 10);
        }
        for (int b = 0; b < 7; b++) {
            x.books(10, 0, 0);
        }
        Check.due("ten times", Check.told(x, "h00;r0;c0;".repeat(10)), 30);
        for (int i = 2; i <= 33; i++) {
            Check.due("ten times more", x.shop(7), 30);
            Check.due("pence", x.count(2), 260 * i);
        }
        for (int i = 1; i <= 3; i++) {
            Check.due("pence come", x.hires(0, 0), 8580 + 26 * i);
            x.returns(0);
            Check.due("hours, too", x.cleans(0), 990 + 3 * i);
        }
        Check.due("the last time", x.hires(0, 0), 8684);
        for (int s = 1; s < 7; s++) {
            Check.due("and six more", x.hires(s, s), 8684 + 48 * s);
        }
        Check.due("pence in all", x.count(2), 8972);
        Check.due("HOUR 999", x.count(3), 999);
        x.returns(0);
        Check.due("HOUR above 999", x.cleans(0), -3);
    }

    /** "HOUR (0 .. 999)": 999 is still allowed, 1000 is not, by a call and by a text. */
    private static void hourAtMost() {
        for (int k : new int[] {0, 1, 3}) {
            BackByNoonOnMonday x = nearTheLastHour(k);
            int hours = told("CLEANS", k, 0);
            Check.due("hour", x.count(3), 996);
            Check.due(KINDS[k] + " told", Check.told(x, "c1;"), hours <= 3 ? 1 : -2000);
            Check.due("hour then", x.count(3), hours <= 3 ? 996 + hours : 996);
            x = nearTheLastHour(k);
            Check.due(KINDS[k] + " cleaned", x.cleans(1), hours <= 3 ? 996 + hours : -3);
            Check.due("state then", x.suit(1, 4), hours <= 3 ? 0 : 2);
        }
    }

    /** HOUR is 996, suit 1 is DIRTY: the first took twelve hours each of 83 times. */
    private static BackByNoonOnMonday nearTheLastHour(int k) {
        BackByNoonOnMonday x = new BackByNoonOnMonday();
        x.keep(0, 1, 7, 8);
        x.buys(0, 10);
        x.keep(0, 1, k, 0);
        x.buys(0, 10);
        x.books(10, 0, 0);
        Check.due("ten times", Check.told(x, "h00;r0;c0;".repeat(10)), 30);
        for (int i = 2; i <= 8; i++) {
            x.shop(7);
        }
        Check.due("three times", Check.told(x, "h00;r0;c0;h00;r0;c0;h00;r0;c0;h10;r1;"), 11);
        return x;
    }
}
