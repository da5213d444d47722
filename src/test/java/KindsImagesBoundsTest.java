/** The bounds of KINDS, IMAGES and THE TRACE: promises 26, 27, 28 and 30. */
public final class KindsImagesBoundsTest {
    private static final String NOBODY = "b0 0 0 0 0 0 0;";

    public static void main(String[] args) {
        Check.runAll(KindsImagesBoundsTest.class);
    }

    private static void rated(DayNames x, int b, int... rates) {
        for (int kind = 0; kind < rates.length; kind++) {
            Check.due("rate(" + kind + ", " + b + ")", x.rate(kind, b), rates[kind]);
        }
    }

    // ---- kinds

    /** Promise 26: "0 BIDDER; 1 BREWER, 2 LOVER, 5 HEIR (each under BIDDER); 3 RIVAL (under BREWER); 4 POET (under LOVER)." */
    static void theFirstAndTheLastKind() {
        DayNames x = Check.town("b1 2 0 0 0 0 0;");
        rated(x, 0, 1, 3, 1, 6, 1, 1);
        int[] wrong = {-1, 6, Integer.MIN_VALUE, Integer.MAX_VALUE};
        for (int kind : wrong) Check.due("rate(" + kind + ", 0)", x.rate(kind, 0), DayNames.NO);
    }

    /** Promise 26: "RATE. NO: BAD." The last BIDDER, and what is beside; no BIDDER at all. */
    static void wrongBidders() {
        DayNames x = Check.town(NOBODY + NOBODY + NOBODY + "b5 1 0 0 0 0 0;");
        rated(x, 3, 5, 6, 5, 12, 8, 5);
        int[] wrong = {-1, 4, Integer.MIN_VALUE, Integer.MAX_VALUE};
        for (int b : wrong) {
            for (int kind = 0; kind <= 5; kind++) {
                Check.due("rate(" + kind + ", " + b + ")", x.rate(kind, b), DayNames.NO);
            }
        }
        Check.due("rate(6, 4)", x.rate(6, 4), DayNames.NO);
        Check.due("rate(0, 0) of none", new DayNames().rate(0, 0), DayNames.NO);
    }

    /** Promise 26: "BIDDER his PURSE (1). BREWER up, and his WAGE (10)." Nothing at all, and the most at first. */
    static void leastAndMostRates() {
        DayNames x = Check.town(NOBODY + "b99 9 0 0 0 0 0;");
        rated(x, 0, 0, 0, 0, 0, 0, 0);
        rated(x, 1, 99, 108, 99, 216, 100, 99);
    }

    /** Promise 26: "LOVER up less all he owes yet, not due so far (100)." No DEBT, six of 50: far below 0. */
    static void allHeOwes() {
        DayNames x = Check.town("b9 3 0 0 0 0 0;" + "b5 0 0 0 0 0 0;" + "o1 0 50 5 4;".repeat(6));
        rated(x, 0, 9, 12, 9, 24, 9, 9);
        rated(x, 1, 5, 5, 5 - 300, 10, 6 - 300, 5);
    }

    /** Promise 26: "NO = -1000000": "What none is, where a number may be below 0." A RATE may be BAD's number, NONE's. */
    static void ratesBelowNothing() {
        DayNames x = Check.town(NOBODY + NOBODY + "o0 1 1 1 4;o1 0 9 1 4;");
        Check.due("rate(2, 0)", x.rate(2, 0), -1);
        Check.due("rate(2, 1)", x.rate(2, 1), -9);
        Check.due("rate(4, 1)", x.rate(4, 1), -8);
    }

    /** Promise 26: "all he owes yet, not due so far". A paid one, a DEFAULT, one that is owed to him: none of it. */
    static void notDueSoFar() {
        DayNames x = Check.town("b10 0 0 0 0 0 0;b20 0 0 0 0 0 0;o0 1 4 1 0;o0 1 9 1 0;o0 1 2 2 0;o1 0 7 5 0;");
        Check.due("rate(2, 0)", x.rate(2, 0), 10 - 15);
        x.bids(0, 1);
        x.night();
        Check.due("paid", x.debt(0, 5), 1);
        Check.due("DEFAULT", x.debt(1, 5), 2);
        Check.due("rate(2, 0)", x.rate(2, 0), 6 - 2);
        Check.due("rate(2, 1)", x.rate(2, 1), 24 - 7);
    }

    /** Promise 26: "POET up, and his number (10000). HEIR up, and DAYS (100000)." BIDDER 0 and 3; no DAYS, 60 of them. */
    static void numbersAndDays() {
        DayNames x = Check.town("r0;b9 1 1 0 0 0 0;" + NOBODY + NOBODY + NOBODY);
        rated(x, 3, 0, 0, 0, 0, 3, 0);
        for (int i = 1; i <= 60; i++) x.night();
        rated(x, 0, 9, 10, 9, 20, 9, 69);
        rated(x, 3, 0, 0, 0, 0, 3, 60);
        DayNames skipped = Check.town(NOBODY);
        skipped.night();
        Check.due("rate(5, 0): a SKIPPED NIGHT is no DAY", skipped.rate(5, 0), 0);
    }

    // ---- the trace

    /** Promise 30: "(numbers in brackets are added to THE TRACE, 0 at first, as often as rate() asks that body". */
    static void theTraceOfEachKind() {
        long[] marks = {1, 11, 101, 1011, 10101, 100001};
        for (int kind = 0; kind <= 5; kind++) {
            DayNames x = Check.town(NOBODY);
            Check.due("trace() at first", x.trace(), 0);
            x.rate(kind, 0);
            Check.due("trace() behind rate(" + kind + ", 0)", x.trace(), marks[kind]);
            x.rate(kind, 0);
            Check.due("trace() behind two", x.trace(), 2 * marks[kind]);
        }
    }

    /** Promise 30: "numbers in brackets are added to THE TRACE". A mark does not stop at 9, nor at 99: it carries over. */
    static void theTraceCarriesOver() {
        DayNames x = Check.town(NOBODY);
        for (int i = 1; i <= 100; i++) x.rate(0, 0);
        Check.due("trace() behind 100 BIDDERS", x.trace(), 100);
        for (int i = 1; i <= 20; i++) x.rate(3, 0);
        Check.due("trace() and 20 RIVALS", x.trace(), 100 + 20 * 1011);
        for (int i = 1; i <= 300; i++) x.rate(5, 0);
        Check.due("trace() and 300 HEIRS", x.trace(), 100 + 20 * 1011 + 300 * 100001);
    }

    /** Promise 30: "Refused, and nothing changes". A refused RATE asks no body. */
    static void refusedRatesLeaveNoTrace() {
        DayNames x = Check.town(NOBODY);
        x.rate(-1, 0);
        x.rate(6, 0);
        x.rate(0, -1);
        x.rate(3, 1);
        Check.due("trace()", x.trace(), 0);
    }

    /** Promise 30: "THE TRACE goes on, as behind undo(), back()". */
    static void theTraceGoesOn() {
        DayNames x = Check.town(NOBODY);
        x.keep(0);
        x.night();
        x.rate(1, 0);
        x.undo();
        Check.due("trace() behind undo()", x.trace(), 11);
        x.rate(1, 0);
        x.back(0);
        Check.due("trace() behind back()", x.trace(), 22);
        x.town();
        Check.due("trace() behind town()", x.trace(), 22);
    }

    // ---- images

    /** Promise 27: "An IMAGE is kept: DAYS. BAD." IMAGES 0 and 1, and what is beside. */
    static void theFirstAndTheLastImage() {
        DayNames x = new DayNames();
        int[] wrong = {-1, 2, Integer.MIN_VALUE, Integer.MAX_VALUE};
        for (int image : wrong) Check.due("keep(" + image + ")", x.keep(image), DayNames.BAD);
        Check.due("back(0)", x.back(0), DayNames.STATE);
        Check.due("back(1)", x.back(1), DayNames.STATE);
        Check.due("keep(0)", x.keep(0), 0);
        Check.due("keep(1)", x.keep(1), 0);
        for (int image : wrong) Check.due("back(" + image + ")", x.back(image), DayNames.BAD);
        Check.due("back(0)", x.back(0), 0);
        Check.due("back(1)", x.back(1), 0);
    }

    /** Promise 27: "An IMAGE is kept: DAYS." None and 60 of them; SKIPPED NIGHTS are none. */
    static void noDaysAndSixty() {
        DayNames x = Check.town("b1 1 1 0 0 0 0;r0;");
        Check.due("keep(0)", x.keep(0), 0);
        for (int i = 1; i <= 60; i++) x.night();
        Check.due("keep(1)", x.keep(1), 60);
        Check.due("back(0)", x.back(0), 0);
        Check.nights(x, 0);
        Check.due("back(1)", x.back(1), 60);
        Check.due("night()", x.night(), DayNames.STATE);
        Check.due("day(60)", x.day(60), 0);
        DayNames skipped = new DayNames();
        for (int i = 1; i <= 99; i++) skipped.night();
        Check.due("keep(0)", skipped.keep(0), 0);
        skipped.undo();
        Check.due("back(0)", skipped.back(0), 0);
        Check.due("SKIPPED", skipped.now(1), 99);
        Check.due("night()", skipped.night(), DayNames.STATE);
    }

    /** Promise 27: "An IMAGE is kept". Instead of what it was; the other one stays. */
    static void keptAgain() {
        DayNames x = Check.town("b9 1 1 1 0 0 0;");
        x.keep(0);
        x.keep(1);
        Check.nights(x, 0, 1, 0);
        Check.due("keep(0)", x.keep(0), 3);
        Check.nights(x, 1);
        Check.due("back(0)", x.back(0), 3);
        Check.days(x, 0, 1, 0);
        Check.due("back(1)", x.back(1), 0);
        Check.due("back(0) again", x.back(0), 3);
    }

    /** Promise 28: "All of that becomes as an IMAGE has it: DAYS. BAD; STATE: none was kept." One kept, the other not. */
    static void noneWasKept() {
        DayNames x = Check.town("b9 1 1 1 0 0 0;");
        x.keep(1);
        Check.nights(x, 0, 1);
        Check.due("back(0)", x.back(0), DayNames.STATE);
        Check.days(x, 0, 1);
        Check.due("UNDONE", x.now(5), 2);
        Check.due("undo()", x.undo(), 1);
        Check.due("back(1)", x.back(1), 0);
    }

    /** Promise 28: "the first of these: BAD (a number is not as told, or there is no such thing), STATE (as told), FULL." */
    static void aWrongImageOfNone() {
        DayNames x = new DayNames();
        Check.due("back(-1), none kept", x.back(-1), DayNames.BAD);
        Check.due("back(2), none kept", x.back(2), DayNames.BAD);
        Check.due("back(1), none kept", x.back(1), DayNames.STATE);
    }

    /** Promise 28: "NOW (DAYS and their NAMES, PURSES, DEBTS, SKIPPED, SPENT, DEFAULTS, one's OWN bid)". All of it. */
    static void allOfNow() {
        DayNames x = Check.town("b9 4 0 0 0 0 0;b9 0 0 0 0 0 0;o0 1 13 1 3;o1 0 50 1 3;");
        Check.nights(x, -5);
        x.bids(3, 7);
        Check.nights(x, 3);
        x.bids(2, 6);
        Check.due("keep(1)", x.keep(1), 1);
        x.bids(1, 5);
        Check.nights(x, 1, -5);
        Check.due("back(1)", x.back(1), 1);
        Check.days(x, 3);
        Check.purses(x, 0, 22);
        Check.due("debt(0, 5)", x.debt(0, 5), 1);
        Check.due("debt(1, 5)", x.debt(1, 5), 2);
        int[] now = {1, 1, 1, 1, 0, 0};
        for (int what = 0; what <= 5; what++) Check.due("now(" + what + ")", x.now(what), now[what]);
        Check.due("one's OWN bid", x.bids(0, 1), 2);
    }

    /** Promise 28: "NOW (DAYS and their NAMES, PURSES, DEBTS, SKIPPED, SPENT, DEFAULTS, one's OWN bid)". No bid, too. */
    static void noOwnBidInTheImage() {
        DayNames x = new DayNames();
        x.keep(0);
        x.bids(4, 40);
        x.back(0);
        Check.due("bids(1, 1)", x.bids(1, 1), DayNames.NONE);
        x.back(0);
        Check.nights(x, -5);
        x.bids(3, 40);
        x.keep(1);
        x.back(0);
        x.back(1);
        Check.nights(x, 3);
        Check.due("SPENT", x.now(2), 1);
    }

    /** Promise 28: "NOW (DAYS and their NAMES, PURSES, DEBTS, SKIPPED, SPENT, DEFAULTS, one's OWN bid)". Its coins, too. */
    static void coinsOfTheImage() {
        DayNames x = Check.town("b20 0 8 0 0 0 0;");
        x.bids(4, 5);
        x.keep(0);
        x.bids(4, 40);
        x.keep(1);
        x.back(0);
        Check.nights(x, 0);
        x.back(1);
        Check.nights(x, 4);
        x.back(0);
        Check.nights(x, 0);
        Check.purses(x, 20 - 6);
    }

    /** Promise 28: "nothing else (nothing can be UNDONE behind back())". FOUND, PLAN, THE TEXT stay as they are. */
    static void nothingElse() {
        DayNames x = Check.town("b9 1 1 1 0 0 0;");
        x.found(1, 0);
        x.plan(0);
        x.type('r');
        x.keep(0);
        x.forget();
        x.unplan();
        x.clear();
        x.night();
        x.back(0);
        Check.due("FOUND", x.count(3), 0);
        Check.due("PLAN", x.count(4), 0);
        Check.due("letters", x.count(5), 0);
        Check.due("UNDONE", x.now(5), 0);
        Check.due("undo()", x.undo(), DayNames.STATE);
    }

    /** Promise 28: "IMAGES 0, 1 keep NOW". What is done behind back() does not change the IMAGE. */
    static void theImageStays() {
        DayNames x = Check.town("b9 1 1 1 0 0 0;");
        Check.nights(x, 0);
        x.keep(0);
        for (int turn = 1; turn <= 3; turn++) {
            Check.nights(x, 1, 0);
            Check.due("back(0)", x.back(0), 1);
            Check.days(x, 0);
            Check.purses(x, 9);
        }
    }
}
