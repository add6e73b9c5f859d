/** The edges of THE TEXT (promise 2): the first byte with which no SHOP can go on, the first STATEMENT that can't be. */
public final class TextEdgesTest {
    private static final String[] STATEMENTS = {"s000000;", "b000000;", "h00;", "r0;", "c0;"};
    /** What can be done one behind the other on a new shop. */
    private static final String GOOD = "s001000;b100000;h00;r0;c0;";

    public static void main(String[] args) {
        oneStatementAtLeast();
        theEndIfSomethingLacks();
        aWrongByteAtEachPlace();
        lettersAlone();
        digitsAlone();
        oneByteTooMany();
        kindOneAheadOfKindTwo();
        numbersOutOfRange();
        numbersInRange();
        noSuchOne();
        canNotBeHired();
        canNotBeBack();
        canNotBeCleaned();
        penceAndHour();
        noRoom();
        theFirstStatement();
        eachOnWhatThoseAheadMade();
        withOneNothing();
        aFullRow();
        aFullRowWithFaults();
        bytesKeepTheirLowestBits();
        theRowStays();
        everyShelf();
        Check.end();
    }

    private static void fault(String text, int due) {
        Check.due("text '" + text + "'", Check.told(new BackByNoonOnMonday(), text), due);
    }

    /** "STATEMENTS ..., one at least". */
    private static void oneStatementAtLeast() {
        fault("", -1000);
        fault("s000000;", 1);
        fault("b000000;", 1);
        fault(";", -1000);
    }

    /** "the place of the first byte with which no SHOP can go on (the end, if something lacks)". */
    private static void theEndIfSomethingLacks() {
        for (String statement : STATEMENTS) {
            for (int n = 0; n < statement.length(); n++) {
                fault(statement.substring(0, n), -1000 - n);
                fault(GOOD + statement.substring(0, n), n == 0 ? 5 : -1026 - n);
            }
        }
    }

    private static void aWrongByteAtEachPlace() {
        for (String statement : STATEMENTS) {
            for (int n = 0; n < statement.length(); n++) {
                for (char wrong : new char[] {' ', 'x', '-', (char) 0, (char) 255}) {
                    String broken = statement.substring(0, n) + wrong + statement.substring(n + 1);
                    fault(broken, -1000 - n);
                    fault(GOOD + broken + GOOD, -1026 - n);
                }
            }
        }
    }

    /** Those ahead and behind of each letter, and the capitals, begin no STATEMENT. */
    private static void lettersAlone() {
        for (char letter = 0; letter < 256; letter++) {
            boolean begins = "sbhrc".indexOf(letter) >= 0;
            fault(letter + "", begins ? -1001 : -1000);
            fault(GOOD + letter, begins ? -1027 : -1026);
        }
    }

    /** "a digit each": '/' is ahead of them, ':' behind, and a ";" where a digit must be is none. */
    private static void digitsAlone() {
        for (String statement : STATEMENTS) {
            for (int n = 1; n + 1 < statement.length(); n++) {
                for (char wrong : new char[] {'/', ':', ';', 'a', (char) ('0' + 128)}) {
                    fault(statement.substring(0, n) + wrong + statement.substring(n + 1), -1000 - n);
                }
            }
        }
    }

    /** "numbers in THE TEXT have just as many digits as told". */
    private static void oneByteTooMany() {
        fault("s0000000;", -1007);
        fault("b0000000;", -1007);
        fault("h000;", -1003);
        fault("r00;", -1002);
        fault("c00;", -1002);
        fault("s000000;;", -1008);
        fault("s000000:", -1007);
        fault("s00000;", -1006);
        fault("h0;", -1002);
        fault("r;", -1001);
    }

    /** "kind 1 ...; else kind 2": a byte at the end is told ahead of a STATEMENT at the start. */
    private static void kindOneAheadOfKindTwo() {
        fault("s999999;", -2000);
        fault("s999999;r", -1009);
        fault("s999999;b", -1009);
        fault("h00;r0;c0;x", -1010);
        fault("c0;c0;c0", -1008);
    }

    /** "a number out of range". */
    private static void numbersOutOfRange() {
        fault("s800000;", -2000);
        fault("s900000;", -2000);
        fault("s002100;", -2000);
        fault("s009900;", -2000);
        fault("b210000;", -2000);
        fault("b990000;", -2000);
        fault("b004000;", -2000);
        fault("b009000;", -2000);
        fault("s000000;s800000;", -2008);
        fault("s000000;b210000;", -2008);
    }

    /** The last that is still allowed of each. */
    private static void numbersInRange() {
        fault("s700000;", 1);
        fault("s090000;", 1);
        fault("s002000;", 1);
        fault("s000099;", 1);
        fault("s792099;", 1);
        fault("b200000;", 1);
        fault("b003000;", 1);
        fault("b000900;", 1);
        fault("b000090;", 1);
        fault("b000009;", 1);
        fault("b203999;", 1);
    }

    /** "no such one": SUITS 0 .. 6, BOOKINGS 0 .. 6, as far as they have come. */
    private static void noSuchOne() {
        fault("h00;", -2000);
        fault("r0;", -2000);
        fault("c0;", -2000);
        fault("s001000;h00;", -2008);
        fault("b100000;h00;", -2008);
        fault("s001000;b100000;h10;", -2016);
        fault("s001000;b100000;h01;", -2016);
        fault("s001000;b100000;h99;", -2016);
        fault("s001000;b100000;r1;", -2016);
        fault("s001000;b100000;c1;", -2016);
        fault("s001000;b100000;r9;", -2016);
        BackByNoonOnMonday x = new BackByNoonOnMonday();
        x.keep(0, 1, 0, 0);
        for (int i = 0; i < 7; i++) {
            x.buys(0, 10);
            x.books(10, 0, 0);
        }
        Check.due("the last of each", Check.told(x, "h66;r6;c6;"), 3);
        Check.due("suit 7", Check.told(x, "h70;"), -2000);
        Check.due("booking 7", Check.told(x, "h07;"), -2000);
        Check.due("suit 7 back", Check.told(x, "r7;"), -2000);
        Check.due("suit 7 cleaned", Check.told(x, "c7;"), -2000);
    }

    /** "one that can not be HIRED": OUT, DIRTY, to one that HAS one, too far apart. */
    private static void canNotBeHired() {
        fault("s001000;b100000;b100000;h00;h01;", -2028);
        fault("s001000;b100000;b100000;h00;r0;h01;", -2031);
        fault("s001000;s001000;b100000;h00;h10;", -2028);
        fault("s001000;b110000;h00;", 3);
        fault("s001000;b090000;h00;", 3);
        fault("s001000;b120000;h00;", -2016);
        fault("s001000;b080000;h00;", -2016);
    }

    /** "BACK": none that is IN, none that is DIRTY. */
    private static void canNotBeBack() {
        fault("s001000;r0;", -2008);
        fault("s001000;b100000;h00;r0;", 4);
        fault("s001000;b100000;h00;r0;r0;", -2023);
        fault("s001000;b100000;h00;r0;c0;r0;", -2026);
    }

    /** "CLEANED": none that is IN, none that is OUT. */
    private static void canNotBeCleaned() {
        fault("s001000;c0;", -2008);
        fault("s001000;b100000;h00;c0;", -2020);
        fault("s001000;b100000;h00;r0;c0;", 5);
        fault("s001000;b100000;h00;r0;c0;c0;", -2026);
    }

    /** "HOUR above 999": in the midst of a text, which then is as if it had not been told. */
    private static void penceAndHour() {
        BackByNoonOnMonday x = Check.shopOf("s791000;s301000;b100000;");
        Check.due("nine times 13 hours", Check.told(x, "h00;r0;c0;".repeat(9)), 27);
        for (int i = 2; i <= 8; i++) {
            Check.due("nine times more", x.shop(7), 27);
        }
        Check.due("hour", x.count(3), 936);
        int pence = x.count(2);
        Check.due("the fifth is too much", x.shop(7), -2000 - 4 * 10 - 7);
        Check.due("hour as it was", x.count(3), 936);
        Check.due("pence as they were", x.count(2), pence);
        Check.due("worn as they were", x.count(7), 72);
        Check.due("in as they were", x.count(4), 3);
        Check.due("four", Check.told(x, "h00;r0;c0;h00;r0;c0;h00;r0;c0;h00;r0;c0;h10;r1;c1;h10;r1;c1;h10;r1;c1;"), 21);
        Check.due("hour 994", x.count(3), 994);
        Check.due("six are too many", Check.told(x, "h10;r1;c1;h10;r1;c1;h10;r1;c1;"), -2027);
        Check.due("four are not", Check.told(x, "h10;r1;c1;h10;r1;c1;"), 6);
        Check.due("hour 998", x.count(3), 998);
    }

    /** "no room". */
    private static void noRoom() {
        String seven = "s000000;s000000;s000000;s000000;s000000;s000000;s000000;";
        fault(seven, 7);
        fault(seven + "s000000;", -2056);
        fault(seven + "b000000;", 8);
        seven = seven.replace('s', 'b');
        fault(seven, 7);
        fault(seven + "b000000;", -2056);
        fault(seven + "s000000;", 8);
    }

    /** "the first STATEMENT that is not as it must be". */
    private static void theFirstStatement() {
        fault("r0;s800000;", -2000);
        fault("s000000;r0;s800000;r1;", -2008);
        fault("b000000;s800000;r0;", -2008);
    }

    /** "STATEMENTS are tried one behind the other, each on what those ahead of it made". */
    private static void eachOnWhatThoseAheadMade() {
        fault("h00;s001000;b100000;", -2000);
        fault("s001000;h00;b100000;", -2008);
        fault("s001000;b100000;h00;", 3);
        fault("s001000;b100000;c0;r0;h00;", -2016);
        fault("s001000;b100000;h00;c0;r0;", -2020);
        fault("s001000;b100000;h00;r0;c0;h00;r0;c0;h00;", 9);
    }

    /** "Without FAULT all of it comes, with one nothing". */
    private static void withOneNothing() {
        String good = "s791507;b093987;r0;c0;h01;";
        for (String fault : new String[] {"x", "r9;", "s800000;", "h00;", "c0;", "s00000", "b000000", "b210000;", "h1"}) {
            BackByNoonOnMonday x = Check.shopOf("s001000;b100000;h00;");
            int answer = Check.told(x, good + fault);
            Check.due("a fault in " + good + fault, answer < -1000 ? 1 : 0, 1);
            BackByNoonOnMonday y = Check.shopOf("s001000;b100000;h00;");
            Check.text(y, 7, good + fault);
            Check.same("with " + good + fault, Everything.of(x), Everything.of(y));
        }
        BackByNoonOnMonday x = Check.shopOf("s001000;b100000;h00;");
        Check.due("all of it", Check.told(x, good), 5);
        int[] due = {2, 2, 20, 3, 2, 1, 0, 9};
        for (int what = 0; what < 8; what++) {
            Check.due("count " + what, x.count(what), due[what]);
        }
    }

    /** A ROW has 100 elements at most: all of them a text. */
    private static void aFullRow() {
        String text = "s001000;s001000;s001000;s001000;s001000;s001000;s001000;b100000;b100000;b100000;b100000;b100000;h64;";
        Check.due("its length", text.length(), 100);
        BackByNoonOnMonday x = new BackByNoonOnMonday();
        Check.due("all of it", Check.told(x, text), 13);
        Check.due("its last", x.booking(4, 5), 6);
    }

    private static void aFullRowWithFaults() {
        StringBuilder text = new StringBuilder();
        for (int i = 0; i < 33; i++) {
            text.append("r0;");
        }
        fault(text.toString(), -2000);
        fault(text + "r", -1100);
        fault(text + ";", -1099);
        fault(text + "c", -1100);
        text.setCharAt(98, 'x');
        fault(text.toString(), -1098);
        text.setLength(0);
        for (int i = 0; i < 25; i++) {
            text.append("h00;");
        }
        fault(text.toString(), -2000);
        fault(text.substring(0, 99), -1099);
        BackByNoonOnMonday x = new BackByNoonOnMonday();
        Check.due("100 zeros", x.row(0, 0, 100), 0);
        Check.due("no letter among them", x.shop(0), -1000);
    }

    /** "what is put in keeps its lowest bits": so a letter may be put by a greater number. */
    private static void bytesKeepTheirLowestBits() {
        BackByNoonOnMonday x = new BackByNoonOnMonday();
        String text = "s792099;";
        x.row(0, 0, text.length());
        for (int i = 0; i < text.length(); i++) {
            x.put(0, i, text.charAt(i) + (i % 2 == 0 ? 256 : -65536));
        }
        Check.due("told", x.shop(0), 1);
        Check.due("worn", x.suit(0, 3), 99);
    }

    /** "The ROW of a text ... stay[s] there". */
    private static void theRowStays() {
        BackByNoonOnMonday x = Check.shopOf(GOOD);
        for (int i = 0; i < GOOD.length(); i++) {
            Check.due("byte " + i, x.element(7, i), GOOD.charAt(i));
        }
        Check.due("no more", Check.thrownByElement(x, 7, GOOD.length()), 2);
        Check.due("told once more", x.shop(7), 5);
        Check.due("two suits", x.count(0), 2);
        x.put(7, 1, '8');
        Check.due("with a FAULT", x.shop(7), -2000);
        Check.due("it stays with a FAULT", x.element(7, 0), 's');
        x.put(7, 1, 'x');
        Check.due("with another FAULT", x.shop(7), -1001);
        Check.due("it stays with that", x.element(7, 1), 'x');
        Check.due("two suits still", x.count(0), 2);
    }

    /** SHELVES 0 .. 7. */
    private static void everyShelf() {
        BackByNoonOnMonday x = new BackByNoonOnMonday();
        for (int d = 0; d < 8; d++) {
            Check.text(x, d, "b000000;");
        }
        for (int d = 0; d < 8; d++) {
            Check.due("text on shelf " + d, x.shop(d), d < 7 ? 1 : -2000);
        }
    }
}
