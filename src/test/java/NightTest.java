/** Promises 5 to 12: nights, what is paid, wages, debts, one's own bid, what is undone. */
public final class NightTest {
    static final String TWO = "b10 2 5 3 0 0 0;b10 1 4 6 0 0 1;o0 1 5 2 1;o1 0 50 1 1;";

    public static void main(String[] args) {
        nightsOfTwo();
        whoHasIt();
        bars();
        ownBids();
        ownBidIsForOneNight();
        skipped();
        debtsByNumbers();
        never();
        theLastDay();
        theLastSkipped();
        undone();
        undoneIsAll();
        wrongNumbers();
        Check.finish();
    }

    private static void nightsOfTwo() {
        DayNames x = Check.town(TWO);
        Check.nights(x, 1);
        Check.purses(x, 12, 5);
        Check.due("a DEFAULT", x.debt(1, 5), 2);
        Check.due("DEFAULTS", x.now(3), 1);
        Check.nights(x, 0);
        Check.purses(x, 9, 6);
        Check.due("not due yet", x.debt(0, 5), 0);
        Check.nights(x, 1);
        Check.purses(x, 6, 8);
        Check.due("paid", x.debt(0, 5), 1);
        Check.nights(x, 0, 1);
        Check.purses(x, 5, 6);
        Check.days(x, 1, 0, 1, 0, 1);
        int[][] names = {{2, 4, 0}, {3, 5, 1}, {0, 0, 0}};
        for (int n = 0; n < 3; n++) {
            for (int what = 0; what < 3; what++) {
                Check.due("name(" + n + ", " + what + ")", x.name(n, what), names[n][what]);
            }
        }
        Check.due("DEFAULTS", x.now(3), 1);
        Check.due("SPENT", x.now(2), 0);
        Check.due("a DEFAULT stays one", x.debt(1, 5), 2);
    }

    private static void whoHasIt() {
        DayNames alone = Check.town("b9 0 0 7 7 0 0;");
        Check.nights(alone, 1);
        Check.purses(alone, 8);
        DayNames alike = Check.town("b9 0 0 0 5 0 0;b9 0 5 0 0 0 0;");
        Check.nights(alike, 2);
        Check.purses(alike, 4, 9);
        DayNames higher = Check.town("b9 0 0 3 0 0 0;b9 0 0 8 0 0 0;");
        Check.nights(higher, 1);
        Check.purses(higher, 9, 5);
        DayNames poor = Check.town("b4 0 5 4 0 0 0;");
        Check.nights(poor, 1);
        Check.purses(poor, 3);
        DayNames exactly = Check.town("b5 0 5 4 0 0 0;");
        Check.nights(exactly, 0);
    }

    private static void bars() {
        String bidder = "b9 9 5 4 3 0 0;";
        Check.nights(Check.town(bidder + "r0;"), 0, 0, 0);
        Check.nights(Check.town(bidder), 0, 1, 0, 1);
        Check.nights(Check.town(bidder + "r2;"), 0, 1, 2, 0, 1);
        DayNames x = Check.town(bidder + "r3;");
        Check.nights(x, 0, 1, 2, -5, -5);
        for (int n = 0; n < 5; n++) Check.due("BARRED " + n, x.name(n, 2), n < 3 ? 1 : 0);
        x.bids(4, 1);
        Check.nights(x, 4, 0);
    }

    private static void ownBids() {
        DayNames x = Check.town(TWO);
        Check.due("bids(4, 9)", x.bids(4, 9), DayNames.NONE);
        Check.due("bids(0, 40)", x.bids(0, 40), 4);
        Check.due("bids(3, 7)", x.bids(3, 7), 0);
        Check.nights(x, 3);
        Check.due("SPENT", x.now(2), 7);
        Check.purses(x, 12, 11);
        x.bids(2, 6);
        Check.nights(x, 1);
        Check.due("one's own bid is last of those alike", x.now(2), 7);
        Check.due("the bidder pays his bid at most", x.bidder(1, 0), 11 - 6 + 1);
        DayNames high = Check.town(TWO);
        high.bids(0, 40);
        Check.nights(high, 0);
        Check.due("SPENT: 1 more than the next", high.now(2), 7);
        DayNames none = new DayNames();
        none.bids(2, 40);
        Check.nights(none, 2);
        Check.due("SPENT: 1, no other bid", none.now(2), 1);
        DayNames against = Check.town(TWO);
        against.bids(1, 5);
        Check.nights(against, 1);
        Check.purses(against, 12, 5);
    }

    private static void ownBidIsForOneNight() {
        DayNames x = Check.town(TWO);
        x.bids(4, 1);
        Check.nights(x, 1);
        Check.due("one's OWN bid is gone", x.bids(1, 40), DayNames.NONE);
        Check.nights(x, 0);
        Check.due("a barred NAME is no bid", x.now(2), 0);
        Check.purses(x, 9, 6);
        Check.nights(x, 1);
        DayNames skip = new DayNames();
        skip.bids(2, 1);
        Check.nights(skip, 2);
        skip.bids(2, 1);
        Check.nights(skip, -5);
        Check.due("gone with a SKIPPED one, too", skip.bids(2, 2), DayNames.NONE);
    }

    private static void skipped() {
        DayNames x = Check.town("b3 5 4 0 0 0 0;b0 5 0 0 0 0 0;o0 1 1 1 0;");
        Check.nights(x, -5, -5);
        Check.purses(x, 3, 0);
        Check.due("SKIPPED", x.now(1), 2);
        Check.due("DAYS", x.now(0), 0);
        x.bids(4, 1);
        Check.nights(x, 4, 0);
        Check.purses(x, 11, 11);
    }

    private static void debtsByNumbers() {
        DayNames x = Check.town("b5 0 1 0 0 0 0;b0 0 0 0 0 0 0;b0 0 0 0 0 0 0;o1 2 4 1 0;o0 1 4 1 0;o1 2 4 1 0;o0 2 1 1 0;");
        Check.nights(x, 0);
        int[] how = {2, 1, 1, 2};
        for (int d = 0; d < 4; d++) Check.due("debt(" + d + ", 5)", x.debt(d, 5), how[d]);
        Check.purses(x, 0, 0, 4);
        Check.due("DEFAULTS", x.now(3), 2);
        DayNames wage = Check.town("b1 3 1 0 0 0 0;b0 0 0 0 0 0 0;o0 1 3 1 0;");
        Check.nights(wage, 0);
        Check.due("the WAGE comes ahead of DEBTS", wage.debt(0, 5), 1);
        Check.purses(wage, 0, 3);
    }

    private static void never() {
        DayNames wanted = Check.town("b0 0 1 0 0 0 0;b0 0 0 1 0 0 0;o0 1 1 1 0;o0 1 1 1 1;o0 1 1 1 2;");
        Check.due("NEVER: what is WORTH something to one of them is not", wanted.now(4), 4);
        DayNames x = Check.town("b1 0 1 0 0 0 0;b1 0 1 0 0 0 0;o0 1 1 1 4;o0 1 1 1 0;o1 0 1 5 3;");
        Check.due("NEVER", x.now(4), 5);
        x.bids(4, 5);
        Check.nights(x, 4);
        Check.due("SPENT", x.now(2), 2);
        Check.due("NEVER: not one that was due", x.now(4), 4);
        Check.due("the latest DAY of a NAME, the first of all", x.name(4, 1), 1);
        Check.due("paid", x.debt(0, 5), 1);
    }

    private static void theLastDay() {
        DayNames x = Check.town("b1 1 1 1 0 0 0;b1 0 0 0 0 0 0;o1 0 9 5 2;");
        for (int i = 1; i <= 60; i++) Check.due("night " + i, x.night(), (i - 1) % 2);
        x.bids(2, 9);
        Check.due("night() of DAY 60", x.night(), DayNames.STATE);
        Check.due("DAYS", x.now(0), 60);
        Check.due("day(60)", x.day(60), 1);
        Check.due("day(61)", x.day(61), DayNames.BAD);
        Check.due("UNDONE", x.now(5), 10);
        Check.due("one's OWN bid stays", x.bids(3, 1), 2);
        Check.due("NIGHTS to come go on", x.inNights(20, 1), 80);
        Check.due("the NAME of DAY 79", x.inNights(19, 0), 0);
        Check.due("falls(0)", x.falls(0), DayNames.NONE);
        x.undo();
        x.undo();
        x.undo();
        Check.nights(x, 1);
    }

    private static void theLastSkipped() {
        DayNames x = new DayNames();
        for (int i = 1; i <= 99; i++) Check.due("night " + i, x.night(), -5);
        Check.due("night() behind 99 SKIPPED", x.night(), DayNames.STATE);
        Check.due("SKIPPED", x.now(1), 99);
        x.bids(3, 4);
        Check.due("night() with a bid behind 99 SKIPPED", x.night(), DayNames.STATE);
        Check.due("what can be bought goes on", x.buy(3, 10, 1), 1);
        x.undo();
        x.undo();
        x.bids(3, 4);
        Check.nights(x, 3, -5);
        Check.due("night() of 99 SKIPPED and a DAY", x.night(), DayNames.STATE);
    }

    private static void undone() {
        DayNames x = Check.town("b9 1 1 1 0 0 0;");
        for (int i = 1; i <= 12; i++) {
            x.night();
            Check.due("UNDONE behind " + i, x.now(5), Math.min(i, 10));
        }
        for (int i = 9; i >= 0; i--) Check.due("undo()", x.undo(), i);
        Check.due("undo() of what is lost", x.undo(), DayNames.STATE);
        Check.days(x, 0, 1);
        Check.nights(x, 0);
        Check.due("undo()", x.undo(), 0);
        x.bids(9, 9);
        x.found(1, 1);
        x.plan(1);
        x.keep(1);
        Check.due("what is no night() and no bids() is not UNDONE", x.now(5), 0);
    }

    private static void undoneIsAll() {
        DayNames x = Check.town(TWO);
        x.bids(4, 30);
        x.night();
        x.bids(2, 3);
        x.bids(3, 33);
        x.rate(0, 0);
        Check.due("undo() of bids()", x.undo(), 3);
        Check.due("one's OWN bid is the one before", x.bids(0, 1), 2);
        x.undo();
        x.undo();
        Check.due("undo() of night()", x.undo(), 1);
        Check.due("DAYS", x.now(0), 0);
        Check.due("SPENT", x.now(2), 0);
        Check.purses(x, 10, 10);
        Check.nights(x, 4);
        Check.due("one's OWN bid was there again", x.now(2), 7);
        Check.nights(x, 1);
        Check.due("a DEFAULT", x.now(3), 1);
        x.undo();
        Check.due("no DEFAULT", x.now(3), 0);
        Check.due("not due yet", x.debt(1, 5), 0);
        Check.due("THE TRACE stays", x.trace(), 1);
        DayNames skip = new DayNames();
        skip.night();
        skip.undo();
        Check.due("SKIPPED undone", skip.now(1), 0);
    }

    private static void wrongNumbers() {
        DayNames x = Check.town(TWO);
        x.night();
        int[][] bids = {{-1, 1}, {5, 1}, {0, 0}, {0, 41}, {0, -1}};
        for (int[] w : bids) Check.due("bids(" + w[0] + ", " + w[1] + ")", x.bids(w[0], w[1]), DayNames.BAD);
        Check.due("refused bids are not UNDONE", x.now(5), 1);
        Check.due("refused bids are none", x.bids(0, 1), DayNames.NONE);
        Check.due("day(0)", x.day(0), DayNames.BAD);
        Check.due("day(2)", x.day(2), DayNames.BAD);
        Check.due("day(-1)", x.day(-1), DayNames.BAD);
        int[][] names = {{-1, 0}, {5, 0}, {0, -1}, {0, 3}};
        for (int[] w : names) Check.due("name(" + w[0] + ", " + w[1] + ")", x.name(w[0], w[1]), DayNames.BAD);
        Check.due("now(-1)", x.now(-1), DayNames.BAD);
        Check.due("now(6)", x.now(6), DayNames.BAD);
    }
}
