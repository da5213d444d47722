/** The bounds of THE TEXT, its TOKENS and FAULTS: promises 2, 3 and 4. */
public final class TextBoundsTest {
    private static final String BIDDER = "b1 2 3 4 5 6 7;";
    private static final String TWO = BIDDER + BIDDER;
    private static final String DEBT = "o0 1 1 1 1;";

    public static void main(String[] args) {
        Check.runAll(TextBoundsTest.class);
    }

    private static String times(int n, String part) {
        return part.repeat(n);
    }

    // ---- letters

    /** Promise 2: "A letter (0 .. 255) comes to THE TEXT: how many it has." The lowest, the highest. */
    static void lettersJustInside() {
        DayNames x = new DayNames();
        Check.due("type(0)", x.type(0), 1);
        Check.due("type(255)", x.type(255), 2);
        Check.due("count(5)", x.count(5), 2);
    }

    /** Promise 2: "A letter (0 .. 255) comes to THE TEXT: how many it has. BAD; FULL." One below, one above, far off. */
    static void lettersJustOutside() {
        DayNames x = new DayNames();
        int[] wrong = {-1, 256, Integer.MIN_VALUE, Integer.MAX_VALUE, 256 + 'b', 'b' - 65536};
        for (int letter : wrong) Check.due("type(" + letter + ")", x.type(letter), DayNames.BAD);
        Check.due("count(5)", x.count(5), 0);
        Check.due("the first letter behind refused ones", x.type('r'), 1);
    }

    /** Promise 2: "They are a text (200 letters at most)". The last one, and one more. */
    static void theLastLetter() {
        DayNames x = new DayNames();
        for (int i = 1; i <= 199; i++) Check.due("letter " + i, x.type(' '), i);
        Check.due("letter 200", x.type(';'), 200);
        Check.due("letter 201", x.type(';'), DayNames.FULL);
        Check.due("letter 201 again", x.type(0), DayNames.FULL);
        Check.due("count(5)", x.count(5), 200);
    }

    /** Promise 2: "the first of these: BAD (a number is not as told, or there is no such thing), STATE (as told), FULL." */
    static void aWrongLetterOnAFullText() {
        DayNames x = new DayNames();
        Check.type(x, times(200, " "));
        Check.due("type(256)", x.type(256), DayNames.BAD);
        Check.due("type(-1)", x.type(-1), DayNames.BAD);
        Check.due("type(255)", x.type(255), DayNames.FULL);
        Check.due("count(5)", x.count(5), 200);
    }

    /** Promise 2: "Refused, and nothing changes". What is refused is no letter of THE TEXT. */
    static void refusedLettersAreNotRead() {
        DayNames x = new DayNames();
        x.type('r');
        x.type(-1);
        x.type('3');
        x.type(256);
        x.type(';');
        Check.due("town() of r3; with refused letters between", x.town(), 1);
        Check.due("BAR", x.count(1), 3);
        Check.type(x, times(197, " ") + "r4;");
        x.type('x');
        Check.due("town() of 200 letters, an x refused behind them", x.town(), 1);
        Check.due("BAR", x.count(1), 4);
    }

    /** Promise 3: "THE TEXT is empty: how many letters it had." None, one, all. */
    static void clearOfNoneOneAll() {
        DayNames x = new DayNames();
        Check.due("clear() of none", x.clear(), 0);
        x.type('x');
        Check.due("clear() of one", x.clear(), 1);
        Check.due("clear() again", x.clear(), 0);
        Check.type(x, times(200, "x"));
        Check.due("clear() of 200", x.clear(), 200);
        Check.due("count(5)", x.count(5), 0);
        Check.due("the first letter anew", x.type('x'), 1);
    }

    /** Promise 3: "THE TEXT is empty". Letters of before are not read: the new text ends too early. */
    static void lettersOfBeforeAreGone() {
        DayNames x = new DayNames();
        Check.type(x, "r1;");
        x.clear();
        Check.type(x, "r1");
        Check.due("town() of r1, r1; before", x.town(), -10 - 2);
        x.clear();
        Check.type(x, "r1  ;");
        x.clear();
        Check.type(x, "r1");
        Check.due("town() of r1, blanks behind it before", x.town(), -10 - 2);
        x.clear();
        Check.type(x, "r75;");
        x.clear();
        Check.type(x, "r7");
        Check.due("town() of r7, r75; before", x.town(), -10 - 2);
        x.clear();
        Check.due("town() of none", x.town(), 0);
    }

    // ---- items and blanks

    /** Promise 4: "ITEMS (none, too), each ended by ;". */
    static void noItems() {
        Check.reads("", 0);
        Check.reads(" ", 0);
        Check.reads(times(200, " "), 0);
    }

    /** Promise 4: "THE TEXT tells all anew, and is empty then: how many ITEMS." None tell all anew, too. */
    static void noItemsTellAllAnew() {
        DayNames x = Check.town("r5;" + TWO + DEBT);
        Check.due("town() of no letters", x.town(), 0);
        Check.due("BIDDERS", x.count(0), 0);
        Check.due("BAR", x.count(1), 1);
        Check.due("DEBTS", x.count(2), 0);
        Check.due("a BIDDER of before", x.bidder(0, 0), DayNames.BAD);
        Check.due("a DEBT of before", x.debt(0, 0), DayNames.BAD);
    }

    /** Promise 4: "THE TEXT tells all anew, and is empty then: how many ITEMS." As many as there can be: 4, 1 and 6. */
    static void allItems() {
        Check.reads(times(4, BIDDER) + "r1;" + times(6, DEBT), 11);
        Check.reads(times(2, BIDDER) + times(6, DEBT) + times(2, BIDDER) + "r7;", 11);
    }

    /** Promise 4: "They are a text (200 letters at most)". An item whose end is letter 200, and whose end has no place. */
    static void anItemAtTheLastLetter() {
        Check.reads(times(197, " ") + "r7;", 1);
        Check.reads(times(198, " ") + "r7", -10 - 200);
        Check.reads(times(199, " ") + "b", -10 - 200);
        Check.reads(times(199, " ") + ";", -10 - 199);
        Check.reads("r7;" + times(197, " "), 1);
        Check.reads("r7" + times(197, " ") + ";", 1);
    }

    /** Promise 4: "blanks (32), any number, ahead of, between, behind TOKENS". */
    static void blanksAnywhere() {
        Check.reads("  b  1  2  3  4  5  6  7  ;  r  0  ;  ", 2);
        Check.reads("  " + TWO + " o 0  1 1   1 1 ;   ", 3);
        Check.fault("   b   1   x", 11);
        Check.fault(" r  9", 4);
        Check.fault("r1   ", 5);
    }

    /** Promise 4: "TOKENS (needed only between two NUMBERS)". None elsewhere; none between two makes them one. */
    static void blanksBetweenNumbersAlone() {
        Check.reads("r0;b0 0 0 0 0 0 0;b0 0 0 0 0 0 0;o1 0 1 1 0;", 4);
        Check.fault("b1 2 3 4 5 67;", 11);
        Check.fault("b1 2 3 4 5 6;", 12);
        Check.fault("r1 2;", 3);
    }

    /** Promise 4: "blanks (32)". The letters beside it, and what else may look blank. */
    static void whatIsNoBlank() {
        int[] letters = {31, 33, 0, 9, 10, 13, 160, 255, 32 + 128};
        for (int letter : letters) {
            Check.fault("r1;" + (char) letter, 3);
            Check.fault("r" + (char) letter + "1;", 1);
        }
    }

    // ---- tokens that can't stand there

    /** Promise 4: "TOKENS are the letters b, r, o, NUMBERS and ;". Each letter there is, where an item may begin. */
    static void everyLetterWhereAnItemBegins() {
        for (int letter = 0; letter <= 255; letter++) {
            String text = "r1;" + (char) letter;
            if (letter == ' ') {
                Check.reads(text, 1);
            } else if (letter == 'b' || letter == 'o') {
                Check.fault(text, 4);
            } else {
                Check.fault(text, 3);
            }
        }
    }

    /** Promise 4: "each ended by ;". Each letter there is, where that is due (a digit makes the number 70 .. 79). */
    static void everyLetterWhereAnItemEnds() {
        String text = "b1 2 3 4 5 6 7";
        for (int letter = 0; letter <= 255; letter++) {
            if (letter == ';') {
                Check.reads(text + ";", 1);
            } else if (letter == ' ') {
                Check.fault(text + " ", 15);
            } else {
                Check.fault(text + (char) letter, letter >= '0' && letter <= '9' ? 13 : 14);
            }
        }
    }

    /** Promise 4: "the place of the first letter of the first TOKEN that can't stand there". Where a NUMBER is due. */
    static void whatIsNoNumber() {
        String[] before = {"b", "b1 ", "b1 2 ", "b1 2 3 ", "b1 2 3 4 ", "b1 2 3 4 5 ", "b1 2 3 4 5 6 ", "r",
            TWO + "o", TWO + "o0 ", TWO + "o0 1 ", TWO + "o0 1 1 ", TWO + "o0 1 1 1 "};
        String[] wrong = {"b", "r", "o", ";", "x", "100", "01", "-1", "+1", ".", "/", ":"};
        for (String start : before) {
            for (String token : wrong) {
                Check.fault(start + token, start.length());
                Check.fault(start + "  " + token + " 1;", start.length() + 2);
            }
        }
    }

    /** Promise 4: "the place of the first letter of the first TOKEN that can't stand there". Where ; is due. */
    static void whatIsNoEnd() {
        String[] before = {"b1 2 3 4 5 6 7 ", "r1 ", TWO + "o0 1 1 1 1 "};
        String[] wrong = {"b", "r", "o", "x", "0", "5", "99", "100", "01"};
        for (String start : before) {
            for (String token : wrong) Check.fault(start + token + ";", start.length());
        }
    }

    /** Promise 4: "the place of the first letter of the first TOKEN that can't stand there". Where an item begins. */
    static void whatBeginsNoItem() {
        String[] before = {"", " ", "r1;", "r1; ", BIDDER, TWO + DEBT};
        String[] wrong = {";", "0", "5", "99", "100", "01", "x", "B", "R", "O"};
        for (String start : before) {
            for (String token : wrong) Check.fault(start + token + ";", start.length());
        }
    }

    /** Promise 4: "the text's length, if it ends too early." Behind each token of each item, blanks or none behind it. */
    static void tooEarly() {
        String[] texts = {"b", "b1", "b1 2", "b1 2 3", "b1 2 3 4", "b1 2 3 4 5", "b1 2 3 4 5 6", "b1 2 3 4 5 6 7", "r", "r1",
            TWO + "o", TWO + "o0", TWO + "o0 1", TWO + "o0 1 1", TWO + "o0 1 1 1", TWO + "o0 1 1 1 1"};
        for (String text : texts) {
            Check.fault(text, text.length());
            Check.fault(text + "   ", text.length() + 3);
        }
    }

    /** Promise 4: "FAULT: the place of the first letter of the first TOKEN". Of two, the one that comes first. */
    static void theFirstOfTwo() {
        Check.fault("r8;x", 1);
        Check.fault("x;r8;", 0);
        Check.fault("r;100", 1);
        Check.fault("r1;r100;", 3);
        Check.fault("b1 100 x", 3);
        Check.fault("b1 x 100", 3);
        Check.fault("b1 10 01", 3);
        Check.fault(TWO + "o2 2 99", 31);
        Check.fault(TWO + "o0 0 99", 33);
    }

    /** Promise 4: "a fifth b". Where it stands, whatever is behind it; the fourth is none. */
    static void aFifthBidder() {
        String four = times(4, BIDDER);
        Check.reads(four, 4);
        Check.fault(four + BIDDER, 60);
        Check.fault(four + "  b", 62);
        Check.fault(four + "r1;" + DEBT + BIDDER, 74);
    }

    /** Promise 4: "a seventh o". Where it stands, whatever is behind it; the sixth is none. */
    static void aSeventhDebt() {
        String six = TWO + times(6, DEBT);
        Check.reads(six, 8);
        Check.fault(six + DEBT, 96);
        Check.fault(six + " o", 97);
        Check.fault(six + "o9 9", 96);
    }

    /** Promise 4: "r again". Once it may stand anywhere. */
    static void theBarAgain() {
        Check.reads("r0;", 1);
        Check.reads(BIDDER + "r0;", 2);
        Check.reads(TWO + "r0;" + DEBT, 4);
        Check.fault("r0;r0;", 3);
        Check.fault("r1;" + BIDDER + "r2;", 18);
        Check.fault("r1; r", 4);
        Check.fault("r1;r8;", 3);
    }

    /** Promise 4: "a BIDDER that was not told ahead". None, the first, the next one; told behind it is too late. */
    static void aBidderNotToldAhead() {
        Check.fault(DEBT, 1);
        Check.fault(DEBT + TWO, 1);
        Check.fault(BIDDER + DEBT, 18);
        Check.fault(BIDDER + DEBT + BIDDER, 18);
        Check.fault(BIDDER + "o1 0 1 1 1;" + BIDDER, 16);
        Check.reads(TWO + "o0 1 1 1 1;", 3);
        Check.reads(TWO + "o1 0 1 1 1;", 3);
        Check.fault(TWO + "o2 0 1 1 1;" + BIDDER, 31);
        Check.fault(TWO + "o0 2 1 1 1;" + BIDDER, 33);
        Check.reads(TWO + BIDDER + "o2 0 1 1 1;o0 2 1 1 1;", 5);
        Check.reads(times(4, BIDDER) + "o3 0 1 1 1;o0 3 1 1 1;", 6);
        Check.fault(times(4, BIDDER) + "o4 0 1 1 1;", 61);
        Check.fault(times(4, BIDDER) + "o0 4 1 1 1;", 63);
    }

    /** Promise 4: "a B that is A". For each BIDDER, and for the only one. */
    static void aDebtToOneself() {
        String four = times(4, BIDDER);
        for (int b = 0; b < 4; b++) Check.fault(four + "o" + b + " " + b + " 1 1 1;", 63);
        Check.fault(BIDDER + "o0 0 1 1 1;", 18);
    }

    private static String item(String letter, int[] numbers, int upTo) {
        StringBuilder text = new StringBuilder(letter);
        for (int i = 0; i < upTo; i++) text.append(numbers[i]).append(' ');
        return text.toString();
    }

    private static void bound(String told, String letter, int[] numbers, int i, int number, boolean inside) {
        int[] all = numbers.clone();
        all[i] = number;
        String text = told + item(letter, all, all.length) + ";";
        int items = told.isEmpty() ? 1 : 3;
        Check.reads(text, inside ? items : -10 - (told + item(letter, all, i)).length());
    }

    /** Promise 4: "b P W V V V V V (a BIDDER: PURSE, WAGE, WORTH of NAMES 0 .. 4)": 0 .. 99, 0 .. 9, 0 .. 20 each. */
    static void numbersOfBidders() {
        int[] most = {99, 9, 20, 20, 20, 20, 20};
        int[] numbers = {3, 3, 3, 3, 3, 3, 3};
        for (int i = 0; i < most.length; i++) {
            bound("", "b", numbers, i, 0, true);
            bound("", "b", numbers, i, most[i], true);
            bound("", "b", numbers, i, most[i] + 1, false);
        }
        Check.fault("b1 2 3 4 5 6 7 8;", 15);
    }

    /** Promise 4: "r N (BAR; once at most)": 0 .. 7. */
    static void numbersOfBars() {
        Check.reads("r0;", 1);
        Check.reads("r7;", 1);
        Check.fault("r8;", 1);
        Check.fault("r99;", 1);
        Check.fault("r7 7;", 3);
    }

    /** Promise 4: "o A B C K N (a DEBT: WHO, TO WHOM, COINS, k, NAME)": unlike BIDDERS, 1 .. 50, 1 .. 5, 0 .. 4. */
    static void numbersOfDebts() {
        int[] least = {0, 0, 1, 1, 0};
        int[] most = {1, 1, 50, 5, 4};
        int[] numbers = {0, 1, 3, 3, 3};
        for (int i = 0; i < most.length; i++) {
            if (i >= 2) {
                bound(TWO, "o", numbers, i, least[i], true);
                bound(TWO, "o", numbers, i, most[i], true);
            }
            bound(TWO, "o", numbers, i, most[i] + 1, false);
            if (least[i] == 1) bound(TWO, "o", numbers, i, 0, false);
        }
        Check.fault(TWO + "o0 1 1 1 1 1;", 41);
    }

    /** Promise 4: "a NUMBER above 99". 99 is none; digits that would go round in 32 or 64 bits are above it still. */
    static void numbersAbove99() {
        Check.reads("b99 0 0 0 0 0 0;", 1);
        String[] wrong = {"100", "101", "199", "999", "1000", "256", "65536", "2147483648", "4294967296", "4294967297",
            "9999999999", "18446744073709551616", "18446744073709551617", "340282366920938463463374607431768211456",
            times(150, "9")};
        for (String number : wrong) {
            Check.fault("b" + number + " 0 0 0 0 0 0;", 1);
            Check.fault("r" + number + ";", 1);
            Check.fault("r1;" + number, 3);
        }
    }

    /** Promise 4: "with a 0 ahead of others". A 0 alone is none, nor is one behind another digit. */
    static void aZeroAhead() {
        Check.reads("b0 0 0 0 0 0 0;", 1);
        Check.reads("b10 0 10 20 0 0 0;", 1);
        String[] wrong = {"00", "01", "07", "09", "000", "001", "0100", "00000000000000000000"};
        for (String number : wrong) {
            Check.fault("r" + number + ";", 1);
            Check.fault("b" + number + " 0 0 0 0 0 0;", 1);
            Check.fault("b1 2 3 4 5 6 " + number + ";", 13);
        }
    }

    // ---- behind a fault

    /** Promise 4: "-10 less FAULT: nothing changes (THE TEXT stays, too)." What is missing may be told behind it. */
    static void aFaultMayBeMended() {
        DayNames x = new DayNames();
        Check.type(x, "b1 2 3 4 5 6 7");
        Check.due("town() too early", x.town(), -10 - 14);
        Check.due("town() too early, again", x.town(), -10 - 14);
        Check.due("one letter more", x.type(';'), 15);
        Check.due("town()", x.town(), 1);
        Check.due("count(5)", x.count(5), 0);
    }

    /** Promise 4: "-10 less FAULT". Of the first place, of the last one, of the length: -10, -209, -210. */
    static void theLeastAndTheMostFault() {
        Check.reads("x", -10);
        Check.reads(times(199, " ") + "x", -209);
        Check.reads(times(199, " ") + "r", -210);
    }

    /** Promise 4: "-10 less FAULT: nothing changes (THE TEXT stays, too)." A full text stays full. */
    static void aFaultOfAFullText() {
        DayNames x = new DayNames();
        Check.type(x, times(200, ";"));
        Check.due("town()", x.town(), -10);
        Check.due("count(5)", x.count(5), 200);
        Check.due("one letter more", x.type(' '), DayNames.FULL);
        Check.due("clear()", x.clear(), 200);
        Check.due("town() of none", x.town(), 0);
    }

    /** Promise 4: "nothing changes". What stood ahead of the FAULT is not told. */
    static void whatStandsAheadOfAFault() {
        DayNames x = new DayNames();
        Check.type(x, "r5;" + TWO + DEBT + "x");
        Check.due("town()", x.town(), -10 - 44);
        Check.due("BIDDERS", x.count(0), 0);
        Check.due("BAR", x.count(1), 1);
        Check.due("DEBTS", x.count(2), 0);
    }

    /** Promise 4: "r again". A text refused behind its r does not count as told. */
    static void theBarOfARefusedText() {
        DayNames x = new DayNames();
        Check.type(x, "r5;" + TWO + DEBT + "x");
        x.town();
        x.clear();
        Check.type(x, "r6;" + times(4, BIDDER) + times(6, DEBT));
        Check.due("town()", x.town(), 11);
        Check.due("BAR", x.count(1), 6);
        Check.type(x, "r7;");
        Check.due("town() with an r anew", x.town(), 1);
    }
}
