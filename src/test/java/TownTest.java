/** Promises 1 to 6, 29: a new object, THE TEXT, what it tells, its faults. */
public final class TownTest {
    private static final String BIDDER = "b1 2 3 4 5 6 7;";

    public static void main(String[] args) {
        aNewObject();
        letters();
        whatIsTold();
        blanks();
        faultsOfTokens();
        faultsOfBidders();
        faultsOfBars();
        faultsOfDebts();
        tooMany();
        tooEarly();
        aFaultChangesNothing();
        readAnew();
        wrongNumbers();
        Check.finish();
    }

    private static void aNewObject() {
        DayNames x = new DayNames();
        int[] counts = {0, 1, 0, 0, 0, 0};
        for (int what = 0; what < 6; what++) {
            Check.due("count(" + what + ") of a new object", x.count(what), counts[what]);
            Check.due("now(" + what + ") of a new object", x.now(what), 0);
        }
        Check.due("trace() of a new object", x.trace(), 0);
        Check.due("bids(0, 1) of a new object", x.bids(0, 1), DayNames.NONE);
        Check.due("back(0) of a new object", new DayNames().back(0), DayNames.STATE);
        Check.due("undo() of a new object", new DayNames().undo(), DayNames.STATE);
        Check.due("BAD", DayNames.BAD, -1);
        Check.due("STATE", DayNames.STATE, -2);
        Check.due("FULL", DayNames.FULL, -3);
        Check.due("NONE", DayNames.NONE, -9);
        Check.due("NO", DayNames.NO, -1000000);
    }

    private static void letters() {
        DayNames x = new DayNames();
        Check.due("type(0)", x.type(0), 1);
        Check.due("type(255)", x.type(255), 2);
        Check.due("type(-1)", x.type(-1), DayNames.BAD);
        Check.due("type(256)", x.type(256), DayNames.BAD);
        Check.due("count(5)", x.count(5), 2);
        Check.due("clear()", x.clear(), 2);
        Check.due("clear() again", x.clear(), 0);
        for (int i = 1; i <= 200; i++) Check.due("letter " + i, x.type(' '), i);
        Check.due("letter 201", x.type(' '), DayNames.FULL);
        Check.due("a wrong letter 201", x.type(300), DayNames.BAD);
        Check.due("count(5) of a full text", x.count(5), 200);
        Check.due("town() of 200 blanks", x.town(), 0);
        Check.due("count(5) behind town()", x.count(5), 0);
        StringBuilder bars = new StringBuilder();
        while (bars.length() < 199) bars.append(' ');
        Check.type(x, bars.append('b').toString());
        Check.due("town() of a text whose last letter is a b", x.town(), -10 - 200);
    }

    private static void whatIsTold() {
        DayNames x = Check.town("b99 9 20 0 1 2 3;b0 0 0 0 0 0 20;r7;o1 0 50 5 4;o0 1 1 1 0;");
        Check.due("BIDDERS", x.count(0), 2);
        Check.due("BAR", x.count(1), 7);
        Check.due("DEBTS", x.count(2), 2);
        facts(x, 0, 99, 9, 20, 0, 1, 2, 3);
        facts(x, 1, 0, 0, 0, 0, 0, 0, 20);
        int[][] debts = {{1, 0, 50, 5, 4, 0}, {0, 1, 1, 1, 0, 0}};
        for (int d = 0; d < 2; d++) {
            for (int what = 0; what < 6; what++) {
                Check.due("debt(" + d + ", " + what + ")", x.debt(d, what), debts[d][what]);
            }
        }
        Check.due("a BAR of 0", Check.town("r0;").count(1), 0);
        Check.due("no BAR told", Check.town(BIDDER).count(1), 1);
    }

    private static void facts(DayNames x, int b, int... facts) {
        for (int what = 0; what < facts.length; what++) {
            Check.due("bidder(" + b + ", " + what + ")", x.bidder(b, what), facts[what]);
        }
    }

    private static void blanks() {
        Check.reads("", 0);
        Check.reads("   ", 0);
        Check.reads("  b 1  2 3 4 5 6   7 ;  r  0 ; ", 2);
        Check.reads("b1 2 3 4 5 6 7;b1 2 3 4 5 6 7;o0 1 1 1 1;r2;", 4);
        Check.reads("r2;" + BIDDER + "b1 2 3 4 5 6 7;o1 0 1 1 1;", 4);
    }

    private static void faultsOfTokens() {
        Check.fault("x", 0);
        Check.fault("  B1", 2);
        Check.fault("b 1\t2 3 4 5 6 7;", 3);
        Check.fault(BIDDER + "?", 15);
        Check.fault("r;", 1);
        Check.fault("1;", 0);
        Check.fault(";", 0);
        Check.fault("r1;;", 3);
        Check.fault("r01;", 1);
        Check.fault("r00;", 1);
        Check.fault("r 100;", 2);
        Check.fault("b1 2 3 4 5 6 7" + "7;", 13);
        Check.fault("b99999999999999999999 1;", 1);
        Check.fault("b4294967296 1;", 1);
        Check.fault("b1 2 3 4 5 6 7 b", 15);
        Check.fault("b1 2 3r", 6);
        Check.fault("b1 2 3r4;", 6);
        Check.fault("b1 2 3 o0 1 1 1 1;", 7);
        Check.fault("b1 2 b1 2 3 4 5 6 7;", 5);
        Check.fault("r o;", 2);
        Check.fault("r1" + (char) 255, 2);
    }

    private static void faultsOfBidders() {
        Check.fault("b100 0 0 0 0 0 0;", 1);
        Check.fault("b99 10 0 0 0 0 0;", 4);
        Check.fault("b99 9 21 0 0 0 0;", 6);
        Check.fault("b99 9 20 21 20 20 20;", 9);
        Check.fault("b99 9 20 20 21 20 20;", 12);
        Check.fault("b99 9 20 20 20 21 20;", 15);
        Check.fault("b99 9 20 20 20 20 21;", 18);
        Check.fault("b1 2 3 4 5 6;", 12);
        Check.fault("b1 2 3 4 5 6 7 8;", 15);
    }

    private static void faultsOfBars() {
        Check.fault("r8;", 1);
        Check.fault("r1;r1;", 3);
        Check.fault("r1 1;", 3);
        Check.fault("r1;" + BIDDER + "r1;", 18);
    }

    private static void faultsOfDebts() {
        String two = BIDDER + BIDDER;
        Check.fault("o0 1 1 1 1;", 1);
        Check.fault(BIDDER + "o0 1 1 1 1;", 18);
        Check.fault(two + "o0 0 1 1 1;", 33);
        Check.fault(two + "o2 0 1 1 1;", 31);
        Check.fault(two + "o0 2 1 1 1;", 33);
        Check.fault(two + "o0 1 0 1 1;", 35);
        Check.fault(two + "o0 1 51 1 1;", 35);
        Check.fault(two + "o0 1 50 0 1;", 38);
        Check.fault(two + "o0 1 50 6 1;", 38);
        Check.fault(two + "o0 1 50 5 5;", 40);
        Check.fault(two + "o0 1 50 5;", 39);
    }

    private static void tooMany() {
        String four = BIDDER + BIDDER + BIDDER + BIDDER;
        Check.reads(four, 4);
        Check.fault(four + " b", 61);
        String six = BIDDER + BIDDER;
        for (int d = 0; d < 6; d++) six += "o0 1 1 1 1;";
        Check.reads(six, 8);
        Check.fault(six + "o", 96);
    }

    private static void tooEarly() {
        Check.fault("b", 1);
        Check.fault("b  ", 3);
        Check.fault("b1 2 3 4 5 6 7", 14);
        Check.fault("b1 2 3 4 5 6 7 ", 15);
        Check.fault("r1", 2);
        Check.fault(BIDDER + "o", 16);
    }

    private static void aFaultChangesNothing() {
        DayNames x = Check.town("b5 1 3 0 0 0 0;b5 1 0 2 0 0 0;r2;o0 1 1 1 0;");
        Check.nights(x, 0, 1);
        x.keep(0);
        x.found(1, 1);
        x.plan(1);
        Check.type(x, "b9 9 9 9 9 9 9;b9 9 9 9 9 9 9;r0;o0 1 9 1 1;r");
        Check.due("town() with a fault", x.town(), -10 - 44);
        Check.days(x, 0, 1);
        Check.due("BIDDERS behind a fault", x.count(0), 2);
        Check.due("BAR behind a fault", x.count(1), 2);
        Check.due("DEBTS behind a fault", x.count(2), 1);
        Check.due("FOUND behind a fault", x.count(3), 1);
        Check.due("PLAN behind a fault", x.count(4), 1);
        Check.due("letters behind a fault", x.count(5), 45);
        Check.due("COINS behind a fault", x.debt(0, 2), 1);
        Check.due("how a DEBT is behind a fault", x.debt(0, 5), 1);
        Check.due("WAGE behind a fault", x.bidder(0, 1), 1);
        Check.due("UNDONE behind a fault", x.now(5), 2);
        Check.due("back() behind a fault", x.back(0), 2);
    }

    private static void readAnew() {
        DayNames x = Check.town("b5 1 3 0 0 0 0;b5 1 0 2 0 0 0;r2;o0 1 50 1 4;");
        x.bids(4, 40);
        Check.nights(x, 4);
        x.keep(0);
        x.keep(1);
        x.found(1, 1);
        x.plan(1);
        x.rate(1, 0);
        x.bids(3, 9);
        Check.type(x, "b7 0 0 0 0 0 0;");
        Check.due("town() anew", x.town(), 1);
        Check.due("a BIDDER of before", x.bidder(1, 0), DayNames.BAD);
        Check.due("a DEBT of before", x.debt(0, 0), DayNames.BAD);
        for (int what = 0; what < 6; what++) Check.due("now(" + what + ") anew", x.now(what), 0);
        int[] counts = {1, 1, 0, 0, 0, 0};
        for (int what = 0; what < 6; what++) Check.due("count(" + what + ") anew", x.count(what), counts[what]);
        Check.due("PURSE anew", x.bidder(0, 0), 7);
        Check.due("image 0 anew", x.back(0), DayNames.STATE);
        Check.due("image 1 anew", x.back(1), DayNames.STATE);
        Check.due("undo() anew", x.undo(), DayNames.STATE);
        Check.due("THE TRACE goes on", x.trace(), 11);
        Check.due("one's OWN bid anew", x.bids(0, 1), DayNames.NONE);
        debtsAnew();
        lettersOfBefore();
    }

    private static void debtsAnew() {
        DayNames x = Check.town(BIDDER + BIDDER + "o0 1 50 1 4;");
        x.bids(4, 40);
        Check.nights(x, 4);
        Check.due("a DEFAULT", x.debt(0, 5), 2);
        Check.type(x, BIDDER + BIDDER + "o0 1 1 1 4;");
        x.town();
        Check.due("how a DEBT is anew", x.debt(0, 5), 0);
    }

    private static void lettersOfBefore() {
        DayNames x = new DayNames();
        Check.type(x, "r1  ;");
        x.clear();
        Check.type(x, "r1");
        Check.due("town() of r1, behind a longer text", x.town(), -10 - 2);
        x.clear();
        Check.type(x, "r77");
        x.clear();
        Check.type(x, "r7");
        Check.due("town() of r7, behind a longer text", x.town(), -10 - 2);
    }

    private static void wrongNumbers() {
        DayNames x = Check.town(BIDDER + BIDDER + "o0 1 1 1 1;");
        int[][] bidders = {{-1, 0}, {2, 0}, {0, -1}, {0, 7}};
        for (int[] w : bidders) Check.due("bidder(" + w[0] + ", " + w[1] + ")", x.bidder(w[0], w[1]), DayNames.BAD);
        int[][] debts = {{-1, 0}, {1, 0}, {0, -1}, {0, 6}};
        for (int[] w : debts) Check.due("debt(" + w[0] + ", " + w[1] + ")", x.debt(w[0], w[1]), DayNames.BAD);
        Check.due("count(-1)", x.count(-1), DayNames.BAD);
        Check.due("count(6)", x.count(6), DayNames.BAD);
        Check.due("bidder(0, 0) of a new object", new DayNames().bidder(0, 0), DayNames.BAD);
    }
}
