/** The bounds of what is told: promises 1, 4, 5, 6 and 29. */
public final class TownBoundsTest {
    private static final String BIDDER = "b1 2 3 4 5 6 7;";
    private static final String TWO = BIDDER + BIDDER;
    private static final String DEBT = "o0 1 1 1 1;";

    public static void main(String[] args) {
        Check.runAll(TownBoundsTest.class);
    }

    private static void bad(String call, int got) {
        Check.due(call, got, DayNames.BAD);
    }

    private static void tell(DayNames x, String text, int items) {
        x.clear();
        Check.type(x, text);
        Check.due("town() of " + text, x.town(), items);
    }

    // ---- a new object

    /** Promise 1: "As told; no BIDDERS." No BIDDER, no DEBT, no DAY: whatever asks for one is BAD. */
    static void thereIsNoneOfThem() {
        DayNames x = new DayNames();
        bad("bidder(0, 0)", x.bidder(0, 0));
        bad("debt(0, 0)", x.debt(0, 0));
        bad("debt(0, 5)", x.debt(0, 5));
        bad("day(1)", x.day(1));
        bad("purseIn(0, 0)", x.purseIn(0, 0));
        bad("falls(0)", x.falls(0));
        bad("mayBe(0, 0, 0)", x.mayBe(0, 0, 0));
        bad("planned(0)", x.planned(0));
        bad("odds(0, 0, 0, 0)", x.odds(0, 0, 0, 0));
        Check.due("ring(0, 1, 1)", x.ring(0, 1, 1), DayNames.NO);
        Check.due("rate(0, 0)", x.rate(0, 0), DayNames.NO);
    }

    /** Promise 1: "As told; no BIDDERS." All counts are 0, and the BAR is "1 at first". */
    static void allIsNoneAtFirst() {
        DayNames x = new DayNames();
        for (int what = 0; what <= 5; what++) {
            Check.due("now(" + what + ")", x.now(what), 0);
            Check.due("count(" + what + ")", x.count(what), what == 1 ? 1 : 0);
        }
        for (int n = 0; n <= 4; n++) {
            for (int what = 0; what <= 2; what++) Check.due("name(" + n + ", " + what + ")", x.name(n, what), 0);
        }
        Check.due("trace()", x.trace(), 0);
        Check.due("clear()", x.clear(), 0);
        Check.due("forget()", x.forget(), 0);
        Check.due("unplan()", x.unplan(), 0);
        Check.due("undo()", x.undo(), DayNames.STATE);
        Check.due("back(0)", x.back(0), DayNames.STATE);
        Check.due("back(1)", x.back(1), DayNames.STATE);
        Check.due("bids(0, 1)", x.bids(0, 1), DayNames.NONE);
    }

    /** Promise 1: "As told; no BIDDERS." What comes and what can be bought, with nobody there. */
    static void whatComesWithNobody() {
        DayNames x = new DayNames();
        Check.due("inNights(20, 0)", x.inNights(20, 0), DayNames.NONE);
        Check.due("inNights(20, 1)", x.inNights(20, 1), 0);
        Check.due("inNights(20, 2)", x.inNights(20, 2), 0);
        Check.due("buy(4, 10, 0)", x.buy(4, 10, 0), 1);
        Check.due("buy(4, 10, 1)", x.buy(4, 10, 1), 1);
        Check.due("hold(0, 6, 0): barred by itself behind the first", x.hold(0, 6, 0), 1);
        Check.due("hold(0, 6, 1)", x.hold(0, 6, 1), 1);
        Check.due("planned(-1)", x.planned(-1), 0);
        Check.due("night()", x.night(), -5);
    }

    /** Promise 1: "public static final int NO = -1000000;" and the other answers of the face. */
    static void theConstants() {
        int[] constants = {DayNames.BAD, DayNames.STATE, DayNames.FULL, DayNames.NONE, DayNames.NO};
        int[] due = {-1, -2, -3, -9, -1000000};
        for (int i = 0; i < due.length; i++) Check.due("constant " + i, constants[i], due[i]);
    }

    /** Promise 1: "An object is used for at most 512 calls after it has been made". The last one still counts. */
    static void theLastCall() {
        DayNames x = Check.town("b9 0 0 0 0 0 0;");
        for (int call = 17; call <= 511; call++) Check.due("rate(5, 0)", x.rate(5, 0), 9);
        Check.due("trace(), call 512", x.trace(), 495L * 100001);
        DayNames y = new DayNames();
        for (int call = 1; call <= 511; call += 2) {
            Check.due("type(), call " + call, y.type('x'), 1);
            Check.due("clear(), call " + (call + 1), y.clear(), 1);
        }
    }

    // ---- bidders, debts, the bar

    /** Promise 5: "Of a BIDDER: 0 PURSE, 1 WAGE, 2 .. 6 WORTH of NAMES 0 .. 4. BAD." The least and the most of each. */
    static void leastAndMostOfBidders() {
        DayNames x = Check.town("b0 0 0 0 0 0 0;b99 9 20 20 20 20 20;b1 2 3 4 5 6 7;");
        int[][] facts = {{0, 0, 0, 0, 0, 0, 0}, {99, 9, 20, 20, 20, 20, 20}, {1, 2, 3, 4, 5, 6, 7}};
        for (int b = 0; b < 3; b++) {
            for (int what = 0; what <= 6; what++) {
                Check.due("bidder(" + b + ", " + what + ")", x.bidder(b, what), facts[b][what]);
            }
            bad("bidder(" + b + ", -1)", x.bidder(b, -1));
            bad("bidder(" + b + ", 7)", x.bidder(b, 7));
        }
        bad("bidder(0, MIN)", x.bidder(0, Integer.MIN_VALUE));
        bad("bidder(0, MAX)", x.bidder(0, Integer.MAX_VALUE));
    }

    /** Promise 5: "BIDDERS 0 .. (4 at most)". None, one and all of them: the last there is, and the next one. */
    static void theLastBidder() {
        for (int many = 0; many <= 4; many++) {
            DayNames x = Check.town(BIDDER.repeat(many));
            Check.due("count(0)", x.count(0), many);
            if (many > 0) Check.due("the last BIDDER's PURSE", x.bidder(many - 1, 0), 1);
            if (many > 0) Check.due("the last BIDDER's WORTH of NAME 4", x.bidder(many - 1, 6), 7);
            bad("the next BIDDER's PURSE", x.bidder(many, 0));
            bad("the next BIDDER's WORTH of NAME 4", x.bidder(many, 6));
            bad("bidder(-1, 0)", x.bidder(-1, 0));
            bad("bidder(MAX, 0)", x.bidder(Integer.MAX_VALUE, 0));
            bad("bidder(MIN, 0)", x.bidder(Integer.MIN_VALUE, 0));
        }
    }

    /** Promise 5: "PURSE (0 .. 99 coins) at first". By WAGES it may be more than 99 then: it does not go round. */
    static void aPurseAbove99() {
        DayNames x = Check.town("b99 9 0 0 0 0 0;b99 9 1 0 0 0 0;r0;");
        Check.nights(x, 0);
        Check.purses(x, 108, 107);
        for (int i = 2; i <= 60; i++) x.night();
        Check.purses(x, 99 + 60 * 9, 99 + 60 * 8);
    }

    /** Promise 6: "COINS (1 .. 50), due on the k-th (1 .. 5) DAY of a NAME." The least and the most of each. */
    static void leastAndMostOfDebts() {
        DayNames x = Check.town(TWO + BIDDER + BIDDER + "o0 3 1 1 0;o3 0 50 5 4;");
        int[][] facts = {{0, 3, 1, 1, 0, 0}, {3, 0, 50, 5, 4, 0}};
        for (int d = 0; d < 2; d++) {
            for (int what = 0; what <= 5; what++) {
                Check.due("debt(" + d + ", " + what + ")", x.debt(d, what), facts[d][what]);
            }
            bad("debt(" + d + ", -1)", x.debt(d, -1));
            bad("debt(" + d + ", 6)", x.debt(d, 6));
        }
        bad("debt(0, MIN)", x.debt(0, Integer.MIN_VALUE));
        bad("debt(0, MAX)", x.debt(0, Integer.MAX_VALUE));
    }

    /** Promise 6: "DEBTS 0 .. (6 at most)". None, one and all of them: the last there is, and the next one. */
    static void theLastDebt() {
        for (int many = 0; many <= 6; many++) {
            DayNames x = Check.town(TWO + DEBT.repeat(many));
            Check.due("count(2)", x.count(2), many);
            if (many > 0) Check.due("the last DEBT's TO WHOM", x.debt(many - 1, 1), 1);
            if (many > 0) Check.due("how the last DEBT is", x.debt(many - 1, 5), 0);
            bad("the next DEBT's WHO", x.debt(many, 0));
            bad("how the next DEBT is", x.debt(many, 5));
            bad("debt(-1, 0)", x.debt(-1, 0));
            bad("debt(MAX, 0)", x.debt(Integer.MAX_VALUE, 0));
            bad("debt(MIN, 0)", x.debt(Integer.MIN_VALUE, 0));
        }
    }

    /** Promise 6: "5 how it is (0 not due yet, 1 paid, 2 DEFAULT)". One of each. */
    static void howDebtsAre() {
        DayNames x = Check.town("b5 0 0 0 0 0 0;b0 0 0 0 0 0 0;o0 1 5 1 0;o0 1 1 1 0;o0 1 1 2 0;");
        x.bids(0, 1);
        Check.nights(x, 0);
        Check.due("paid", x.debt(0, 5), 1);
        Check.due("DEFAULT", x.debt(1, 5), 2);
        Check.due("not due yet", x.debt(2, 5), 0);
        for (int d = 0; d < 3; d++) Check.due("COINS as told", x.debt(d, 2), d == 0 ? 5 : 1);
    }

    // ---- counts

    /** Promise 29: "0 BIDDERS, 1 BAR, 2 DEBTS, 3 FOUND, 4 in the PLAN, 5 letters of THE TEXT." All of them full. */
    static void allFull() {
        DayNames x = Check.town("r7;" + TWO + TWO + DEBT.repeat(6));
        for (int i = 1; i <= 5; i++) x.found(i, -1);
        for (int i = 1; i <= 8; i++) x.plan(-1);
        Check.type(x, " ".repeat(200));
        int[] due = {4, 7, 6, 5, 8, 200};
        for (int what = 0; what <= 5; what++) Check.due("count(" + what + ")", x.count(what), due[what]);
        x.found(1, 1);
        x.plan(1);
        x.type(1);
        for (int what = 0; what <= 5; what++) Check.due("count(" + what + ") still", x.count(what), due[what]);
    }

    /** Promise 29: "0 BIDDERS, 1 BAR, 2 DEBTS, 3 FOUND, 4 in the PLAN, 5 letters of THE TEXT. BAD." */
    static void whatIsNotCounted() {
        DayNames x = Check.town(TWO);
        int[] wrong = {-1, 6, Integer.MIN_VALUE, Integer.MAX_VALUE};
        for (int what : wrong) bad("count(" + what + ")", x.count(what));
    }

    /** Promise 29: "BAR (0 .. 7; 1 at first)". Told least, told most, not told. */
    static void barsCounted() {
        Check.due("r0", Check.town("r0;").count(1), 0);
        Check.due("r7", Check.town("r7;").count(1), 7);
        Check.due("not told", Check.town(BIDDER).count(1), 1);
        Check.due("never told", new DayNames().count(1), 1);
    }

    // ---- read anew

    private static DayNames lived() {
        DayNames x = Check.town("b5 1 3 0 0 0 0;b5 1 0 2 0 0 0;r2;o0 1 50 1 4;");
        x.bids(4, 40);
        Check.nights(x, 4, 0, 1, -5);
        return x;
    }

    /** Promise 4: "Read anew: as told (what is not told as at first), no DAYS". */
    static void noDaysAnew() {
        DayNames x = lived();
        Check.days(x, 4, 0, 1);
        tell(x, BIDDER, 1);
        Check.due("DAYS", x.now(0), 0);
        bad("day(1)", x.day(1));
        for (int n = 0; n <= 4; n++) {
            for (int what = 0; what <= 2; what++) Check.due("name(" + n + ", " + what + ")", x.name(n, what), 0);
        }
    }

    /** Promise 4: "Read anew: as told (what is not told as at first)". SKIPPED, SPENT, DEFAULTS are none. */
    static void noCountsAnew() {
        DayNames x = lived();
        Check.due("SKIPPED", x.now(1), 1);
        Check.due("SPENT", x.now(2), 4);
        Check.due("DEFAULTS", x.now(3), 1);
        tell(x, BIDDER, 1);
        for (int what = 0; what <= 5; what++) Check.due("now(" + what + ") anew", x.now(what), 0);
    }

    /** Promise 4: "Read anew: as told (what is not told as at first)". A BAR that is not told is 1 again. */
    static void theBarAnew() {
        DayNames x = lived();
        Check.due("BAR", x.count(1), 2);
        tell(x, BIDDER, 1);
        Check.due("BAR anew", x.count(1), 1);
        tell(x, "r0;", 1);
        Check.due("BAR told anew", x.count(1), 0);
    }

    /** Promise 4: "Read anew: as told". PURSES are as told, though they were something else; BIDDERS of before are gone. */
    static void pursesAnew() {
        DayNames x = lived();
        Check.purses(x, 5, 7);
        tell(x, "b5 1 3 0 0 0 0;", 1);
        Check.purses(x, 5);
        bad("bidder(1, 0)", x.bidder(1, 0));
        tell(x, "b7 1 3 0 0 0 0;b8 0 0 0 0 0 0;", 2);
        Check.purses(x, 7, 8);
    }

    /** Promise 4: "Read anew: as told". A DEBT that was due is not due yet; DEBTS of before are gone. */
    static void debtsAnew() {
        DayNames x = lived();
        Check.due("a DEFAULT", x.debt(0, 5), 2);
        tell(x, TWO + "o1 0 3 1 4;", 3);
        Check.due("not due yet", x.debt(0, 5), 0);
        Check.due("COINS", x.debt(0, 2), 3);
        tell(x, TWO, 2);
        bad("debt(0, 5)", x.debt(0, 5));
    }

    /** Promise 4: "THE TEXT tells all anew". BIDDERS of before do not bid, and what was WORTH something to them is not. */
    static void biddersOfBefore() {
        DayNames x = Check.town("b0 0 0 0 0 0 0;b9 0 0 2 0 0 0;b9 0 0 0 3 0 0;");
        Check.nights(x, 2);
        tell(x, "b5 1 0 0 0 0 0;", 1);
        Check.nights(x, -5);
        Check.due("inNights(20, 1)", x.inNights(20, 1), 0);
        tell(x, TWO + TWO, 4);
        tell(x, "b5 0 0 0 0 0 0;b5 0 0 0 0 0 0;o0 1 1 1 1;", 3);
        Check.due("NEVER", x.now(4), 1);
    }

    /** Promise 4: "THE TEXT tells all anew". DEBTS of before are not paid, not owed, no DEFAULTS; nor is one of a FAULT. */
    static void debtsOfBefore() {
        DayNames x = Check.town("b9 0 0 0 0 0 0;b9 0 0 0 0 0 0;" + "o0 1 2 1 3;".repeat(6));
        tell(x, "b9 0 0 0 0 0 0;b9 0 0 0 0 0 0;o0 1 1 1 3;", 3);
        Check.due("rate(2, 0)", x.rate(2, 0), 8);
        Check.due("NEVER", x.now(4), 1);
        x.bids(3, 1);
        Check.nights(x, 3);
        Check.purses(x, 8, 10);
        Check.due("DEFAULTS", x.now(3), 0);
        tell(x, TWO + "o0 1 50 1 3;o1 0 50 1 3;x", -10 - 54);
        tell(x, "b9 0 0 0 0 0 0;b9 0 0 0 0 0 0;", 2);
        x.plan(3);
        Check.due("planned(-1)", x.planned(-1), 0);
        Check.due("planned(0)", x.planned(0), 9);
        Check.due("rate(2, 1)", x.rate(2, 1), 9);
    }

    /** Promise 4: "Read anew: as told (what is not told as at first)". One's OWN bid is none. */
    static void noOwnBidAnew() {
        DayNames x = lived();
        x.bids(3, 40);
        tell(x, BIDDER, 1);
        Check.nights(x, -5);
        Check.due("SPENT", x.now(2), 0);
        x.bids(3, 40);
        tell(x, BIDDER, 1);
        Check.due("bids(0, 1)", x.bids(0, 1), DayNames.NONE);
    }

    /** Promise 4: "nothing FOUND". */
    static void nothingFoundAnew() {
        DayNames x = lived();
        for (int i = 1; i <= 5; i++) x.found(i, 3);
        tell(x, BIDDER, 1);
        Check.due("count(3)", x.count(3), 0);
        Check.due("mayBe(0, 0, 0)", x.mayBe(0, 0, 0), 21);
        Check.due("forget()", x.forget(), 0);
        Check.due("found(8, 4)", x.found(8, 4), 1);
    }

    /** Promise 4: "no PLAN". */
    static void noPlanAnew() {
        DayNames x = lived();
        for (int i = 1; i <= 8; i++) x.plan(3);
        tell(x, BIDDER, 1);
        Check.due("count(4)", x.count(4), 0);
        Check.due("planned(0)", x.planned(0), 1);
        Check.due("unplan()", x.unplan(), 0);
        Check.due("plan(4)", x.plan(4), 1);
    }

    /** Promise 4: "IMAGES are gone". Both of them. */
    static void imagesAreGoneAnew() {
        DayNames x = lived();
        x.keep(0);
        x.keep(1);
        tell(x, BIDDER, 1);
        Check.due("back(0)", x.back(0), DayNames.STATE);
        Check.due("back(1)", x.back(1), DayNames.STATE);
        Check.due("keep(1)", x.keep(1), 0);
        Check.due("back(1)", x.back(1), 0);
        Check.due("back(0)", x.back(0), DayNames.STATE);
    }

    /** Promise 4: "nothing can be UNDONE". Not even the reading itself. */
    static void nothingIsUndoneAnew() {
        DayNames x = lived();
        Check.due("UNDONE", x.now(5), 5);
        tell(x, BIDDER, 1);
        Check.due("UNDONE anew", x.now(5), 0);
        Check.due("undo()", x.undo(), DayNames.STATE);
        Check.nights(x, -5);
        Check.due("UNDONE", x.now(5), 1);
        Check.due("undo()", x.undo(), 0);
    }

    /** Promise 4: "THE TRACE goes on, as behind undo(), back()". */
    static void theTraceGoesOnAnew() {
        DayNames x = lived();
        x.rate(0, 0);
        tell(x, BIDDER, 1);
        Check.due("trace()", x.trace(), 1);
        x.rate(1, 0);
        Check.due("trace()", x.trace(), 12);
    }

    /** Promise 4: "-10 less FAULT: nothing changes". None of all that would be anew. */
    static void nothingIsAnewByAFault() {
        DayNames x = lived();
        x.found(8, 3);
        x.plan(3);
        x.keep(1);
        x.bids(3, 9);
        tell(x, "r0;" + BIDDER + "x", -10 - 18);
        Check.days(x, 4, 0, 1);
        int[] now = {3, 1, 4, 1, 0, 6};
        int[] counts = {2, 2, 1, 1, 1, 19};
        for (int what = 0; what <= 5; what++) {
            Check.due("now(" + what + ")", x.now(what), now[what]);
            Check.due("count(" + what + ")", x.count(what), counts[what]);
        }
        Check.purses(x, 5, 7);
        Check.due("how the DEBT is", x.debt(0, 5), 2);
        Check.nights(x, 3);
        Check.due("SPENT", x.now(2), 5);
        Check.due("back(1)", x.back(1), 3);
    }
}
