/** The bounds of nights: promises 7 to 10. */
public final class NightBoundsTest {
    private static final String NOBODY = "b0 0 0 0 0 0 0;";

    public static void main(String[] args) {
        Check.runAll(NightBoundsTest.class);
    }

    private static void bad(String call, int got) {
        Check.due(call, got, DayNames.BAD);
    }

    /** One's OWN bids bring these names, each for as much as it takes. */
    private static void ownDays(DayNames x, int... names) {
        for (int name : names) {
            x.bids(name, 40);
            Check.due("night() of an OWN bid", x.night(), name);
        }
    }

    private static void sells(String town, int name, int... purses) {
        DayNames x = Check.town(town);
        Check.due("night() of " + town, x.night(), name);
        Check.purses(x, purses);
    }

    // ---- days

    /** Promise 7: "The NAME of a DAY (1 first). BAD." None yet. */
    static void noDayYet() {
        DayNames x = Check.town("b9 1 1 0 0 0 0;");
        int[] wrong = {0, 1, -1, 60, Integer.MIN_VALUE, Integer.MAX_VALUE};
        for (int i : wrong) bad("day(" + i + ")", x.day(i));
    }

    /** Promise 7: "The NAME of a DAY (1 first). BAD." The first, the last, and what is beside them. */
    static void theFirstAndTheLastDay() {
        DayNames x = Check.town("b9 1 0 1 0 1 0;");
        Check.nights(x, 1, 3, 1, 3);
        Check.days(x, 1, 3, 1, 3);
        bad("day(0)", x.day(0));
        bad("day(5)", x.day(5));
        bad("day(-1)", x.day(-1));
        bad("day(MIN)", x.day(Integer.MIN_VALUE));
        bad("day(MAX)", x.day(Integer.MAX_VALUE));
    }

    /** Promise 7: "The NAME of a DAY (1 first). BAD." An undone DAY is none, though it was one. */
    static void anUndoneDay() {
        DayNames x = Check.town("b9 1 0 1 0 1 0;");
        Check.nights(x, 1, 3);
        x.undo();
        Check.due("day(1)", x.day(1), 1);
        bad("day(2)", x.day(2));
        x.undo();
        bad("day(1)", x.day(1));
    }

    /** Promise 7: "it is the next DAY (60 at most)". DAY 60 is there, 61 never is. */
    static void daySixty() {
        DayNames x = Check.town("b9 1 0 1 0 1 0;");
        for (int i = 1; i <= 60; i++) Check.due("night " + i, x.night(), i % 2 == 1 ? 1 : 3);
        Check.due("day(1)", x.day(1), 1);
        Check.due("day(59)", x.day(59), 1);
        Check.due("day(60)", x.day(60), 3);
        bad("day(61)", x.day(61));
        x.night();
        bad("day(61) behind a refused night()", x.day(61));
        Check.due("day(60)", x.day(60), 3);
    }

    // ---- names

    /** Promise 8: "0 how many DAYS, 1 the latest such DAY (0: none), 2 whether it is BARRED now." None yet. */
    static void namesAtFirst() {
        DayNames x = Check.town("b9 1 1 1 1 1 1;r7;");
        for (int n = 0; n <= 4; n++) {
            for (int what = 0; what <= 2; what++) Check.due("name(" + n + ", " + what + ")", x.name(n, what), 0);
        }
    }

    /** Promise 8: "Of a NAME: 0 how many DAYS, 1 the latest such DAY (0: none), 2 whether it is BARRED now. BAD." */
    static void wrongNames() {
        DayNames x = Check.town("b9 1 1 1 1 1 1;");
        x.night();
        int[] names = {-1, 5, Integer.MIN_VALUE, Integer.MAX_VALUE};
        for (int n : names) {
            for (int what = 0; what <= 2; what++) bad("name(" + n + ", " + what + ")", x.name(n, what));
        }
        int[] whats = {-1, 3, Integer.MIN_VALUE, Integer.MAX_VALUE};
        for (int what : whats) bad("name(0, " + what + ")", x.name(0, what));
        Check.due("name(0, 0)", x.name(0, 0), 1);
        Check.due("name(4, 2)", x.name(4, 2), 0);
    }

    /** Promise 8: "0 how many DAYS, 1 the latest such DAY (0: none)". All 60 of one NAME, none of the others. */
    static void sixtyDaysOfAName() {
        DayNames x = Check.town("b9 1 0 0 0 0 1;r0;");
        for (int i = 1; i <= 60; i++) x.night();
        Check.due("name(4, 0)", x.name(4, 0), 60);
        Check.due("name(4, 1)", x.name(4, 1), 60);
        for (int n = 0; n <= 3; n++) {
            Check.due("name(" + n + ", 0)", x.name(n, 0), 0);
            Check.due("name(" + n + ", 1)", x.name(n, 1), 0);
        }
    }

    /** Promise 8: "1 the latest such DAY (0: none)". The first DAY of all, and the last one. */
    static void theLatestSuchDay() {
        DayNames x = new DayNames();
        ownDays(x, 4, 3, 4, 2);
        int[] latest = {0, 0, 4, 2, 3};
        int[] many = {0, 0, 1, 1, 2};
        for (int n = 0; n <= 4; n++) {
            Check.due("name(" + n + ", 0)", x.name(n, 0), many[n]);
            Check.due("name(" + n + ", 1)", x.name(n, 1), latest[n]);
        }
    }

    /** Promise 8: "no NAME of any of the latest so many DAYS may be sold again." For each BAR: the last one, the next. */
    static void theLastBarredDay() {
        for (int bar = 0; bar <= 7; bar++) {
            DayNames x = Check.town("r" + bar + ";");
            ownDays(x, 0, 1, 2, 3, 4);
            for (int n = 0; n <= 4; n++) {
                Check.due("BAR " + bar + ": name(" + n + ", 2)", x.name(n, 2), 5 - n <= bar ? 1 : 0);
            }
        }
    }

    /** Promise 8: "no NAME of any of the latest so many DAYS may be sold again." Fewer DAYS than the BAR has. */
    static void fewerDaysThanTheBar() {
        DayNames x = Check.town("r7;b9 0 1 1 0 0 0;");
        Check.nights(x, 0);
        Check.due("name(0, 2)", x.name(0, 2), 1);
        Check.due("name(1, 2)", x.name(1, 2), 0);
        Check.nights(x, 1, -5, -5);
        Check.due("name(0, 2) behind SKIPPED NIGHTS", x.name(0, 2), 1);
    }

    /** Promise 8: "2 whether it is BARRED now". A NIGHT that is SKIPPED is no DAY, so that no BAR ends by it. */
    static void skippedNightsEndNoBar() {
        DayNames x = Check.town("b9 0 1 0 0 0 0;");
        Check.nights(x, 0, -5, -5, -5);
        Check.due("name(0, 2)", x.name(0, 2), 1);
        ownDays(x, 4);
        Check.due("name(0, 2) a DAY on", x.name(0, 2), 0);
        Check.nights(x, 0);
    }

    /** Promise 8: "BAR (0 .. 7; 1 at first)". With none, a NAME may be sold again at once. */
    static void noBar() {
        DayNames x = Check.town("b9 0 1 0 0 0 0;r0;");
        Check.nights(x, 0, 0);
        Check.due("name(0, 2)", x.name(0, 2), 0);
        DayNames first = Check.town("b9 0 1 0 0 0 0;");
        Check.nights(first, 0, -5);
        Check.due("name(0, 2), the BAR at first", first.name(0, 2), 1);
    }

    // ---- now

    /** Promise 9: "0 DAYS, 1 SKIPPED, 2 SPENT, 3 DEFAULTS, 4 NEVER (bits), 5 how many may be UNDONE. BAD." */
    static void whatIsNotTold() {
        DayNames x = Check.town("b9 1 1 0 0 0 0;");
        x.night();
        int[] wrong = {-1, 6, Integer.MIN_VALUE, Integer.MAX_VALUE};
        for (int what : wrong) bad("now(" + what + ")", x.now(what));
    }

    /** Promise 9: "4 NEVER (bits)". "DEBTS (bits) not due yet, whose NAME is WORTH nothing to anybody." None, all six. */
    static void neverOfNoneAndOfAll() {
        String two = "b1 0 1 0 1 1 1;" + NOBODY;
        Check.due("no DEBTS", Check.town(two).now(4), 0);
        Check.due("all of them", Check.town(two + "o0 1 1 1 1;".repeat(6)).now(4), 63);
        Check.due("none of them", Check.town(two + "o0 1 1 1 0;".repeat(6)).now(4), 0);
        Check.due("the last one", Check.town(two + "o0 1 1 1 0;".repeat(5) + "o0 1 1 1 1;").now(4), 32);
        Check.due("the first one", Check.town(two + "o0 1 1 1 1;" + "o0 1 1 1 0;".repeat(5)).now(4), 1);
    }

    /** Promise 9: "DEBTS (bits) not due yet, whose NAME is WORTH nothing to anybody." WORTH 1, to the last BIDDER alone. */
    static void neverAndAWorthOfOne() {
        String three = NOBODY + NOBODY + NOBODY;
        Check.due("WORTH 1 to the last", Check.town(three + "b0 0 0 0 0 0 1;o0 1 1 1 4;").now(4), 0);
        Check.due("WORTH 1 to the first", Check.town("b0 0 0 0 0 0 1;" + three + "o0 1 1 1 4;").now(4), 0);
        Check.due("WORTH 0 to all", Check.town(three + NOBODY + "o0 1 1 1 4;").now(4), 1);
        Check.due("WORTH more than there ever is", Check.town("b0 0 0 0 0 0 20;" + NOBODY + "o0 1 1 1 4;").now(4), 0);
    }

    /** Promise 9: "DEBTS (bits) not due yet". One that was paid, and one that was a DEFAULT, are none any more. */
    static void neverIsNotDueYet() {
        DayNames x = Check.town("b5 0 0 0 0 0 0;" + NOBODY + "o0 1 1 1 4;o1 0 50 1 4;o0 1 1 2 4;");
        Check.due("NEVER", x.now(4), 7);
        ownDays(x, 4);
        Check.due("paid", x.debt(0, 5), 1);
        Check.due("DEFAULT", x.debt(1, 5), 2);
        Check.due("NEVER", x.now(4), 4);
        ownDays(x, 3, 4);
        Check.due("NEVER", x.now(4), 0);
    }

    /** Promise 9: "3 DEFAULTS". All six, and they stay; none at first. */
    static void sixDefaults() {
        DayNames x = Check.town(NOBODY + NOBODY + "o0 1 1 1 0;".repeat(6));
        Check.due("DEFAULTS", x.now(3), 0);
        ownDays(x, 0, 1, 0);
        Check.due("DEFAULTS", x.now(3), 6);
        for (int d = 0; d < 6; d++) Check.due("debt(" + d + ", 5)", x.debt(d, 5), 2);
    }

    // ---- night: whether there is one

    /** Promise 10: "STATE: it is DAY 60". The NIGHT of DAY 60 is the last; what is refused changes nothing. */
    static void theNightOfDaySixty() {
        DayNames x = Check.town("b9 1 0 1 0 1 0;");
        for (int i = 1; i <= 59; i++) x.night();
        Check.due("night() on DAY 59", x.night(), 3);
        Check.due("night() on DAY 60", x.night(), DayNames.STATE);
        Check.due("night() on DAY 60, again", x.night(), DayNames.STATE);
        Check.due("DAYS", x.now(0), 60);
        Check.due("SKIPPED", x.now(1), 0);
        Check.due("UNDONE", x.now(5), 10);
        Check.purses(x, 9);
        x.undo();
        Check.due("night() on DAY 59 anew", x.night(), 3);
        Check.due("night() on DAY 60", x.night(), DayNames.STATE);
    }

    /** Promise 10: "STATE: it is DAY 60". Also with one's OWN bid, which stays, and where the NIGHT would be SKIPPED. */
    static void daySixtyWithAnOwnBid() {
        DayNames x = Check.town("b99 0 1 0 0 0 0;r0;");
        for (int i = 1; i <= 60; i++) x.night();
        x.bids(3, 7);
        Check.due("night()", x.night(), DayNames.STATE);
        Check.due("SPENT", x.now(2), 0);
        Check.due("one's OWN bid stays", x.bids(2, 1), 3);
        DayNames alone = Check.town("r0;");
        for (int i = 1; i <= 60; i++) ownDays(alone, 0);
        Check.due("night() that would be SKIPPED", alone.night(), DayNames.STATE);
        Check.due("SKIPPED", alone.now(1), 0);
    }

    /** Promise 10: "or 99 were SKIPPED". The 99th is SKIPPED, the next is refused; a DAY between does not count. */
    static void ninetyNineSkipped() {
        DayNames x = new DayNames();
        for (int i = 1; i <= 50; i++) Check.due("night " + i, x.night(), -5);
        ownDays(x, 2);
        for (int i = 51; i <= 99; i++) Check.due("night " + i, x.night(), -5);
        Check.due("SKIPPED", x.now(1), 99);
        Check.due("night() behind 99 SKIPPED", x.night(), DayNames.STATE);
        Check.due("SKIPPED", x.now(1), 99);
        Check.due("UNDONE", x.now(5), 10);
        x.undo();
        Check.due("SKIPPED", x.now(1), 98);
        Check.nights(x, -5);
        Check.due("night() behind 99 SKIPPED", x.night(), DayNames.STATE);
    }

    /** Promise 10: "or 99 were SKIPPED". Also where one's OWN bid would have it: that bid stays. */
    static void ninetyNineSkippedWithAnOwnBid() {
        DayNames x = new DayNames();
        for (int i = 1; i <= 99; i++) x.night();
        x.bids(2, 7);
        Check.due("night()", x.night(), DayNames.STATE);
        Check.due("DAYS", x.now(0), 0);
        Check.due("SPENT", x.now(2), 0);
        Check.due("one's OWN bid stays", x.bids(3, 1), 2);
    }

    /** Promise 10: "or 99 were SKIPPED". With 98 a DAY may still come, as may DAY 60. */
    static void ninetyEightSkipped() {
        DayNames x = Check.town("r0;");
        for (int i = 1; i <= 98; i++) x.night();
        for (int i = 1; i <= 60; i++) ownDays(x, 1);
        Check.due("DAYS", x.now(0), 60);
        Check.due("SKIPPED", x.now(1), 98);
        Check.due("night()", x.night(), DayNames.STATE);
    }

    // ---- night: who bids what

    /** Promise 10: "that are WORTH something to him and no more than his PURSE". As much as he has, and one more. */
    static void aBidOfAllHeHas() {
        sells("b5 0 5 4 0 0 0;", 0, 4);
        sells("b4 0 5 4 0 0 0;", 1, 3);
        sells("b3 0 5 4 0 0 0;", -5, 3);
        sells("b1 0 1 0 0 0 0;", 0, 0);
        sells("b0 9 1 1 1 1 1;", -5, 0);
        sells("b20 0 20 0 0 0 0;", 0, 19);
        sells("b19 0 20 0 0 0 0;", -5, 19);
    }

    /** Promise 10: "(0 .. 20; 0: he does not bid for it)". Whatever he has. */
    static void worthNothing() {
        sells("b99 9 0 0 0 0 0;", -5, 99);
        sells("b99 0 0 0 0 0 1;", 4, 98);
    }

    /** Promise 10: "that is WORTH most, of several the lowest: as much as that." */
    static void theLowestOfSeveral() {
        sells("b9 0 7 7 7 7 7;", 0, 8);
        sells("b9 0 6 7 6 7 7;", 1, 8);
        sells("b9 0 0 0 0 7 7;", 3, 8);
        sells("b9 0 6 6 6 6 7;", 4, 8);
        sells("b9 0 10 8 9 9 8;", 2, 8);
    }

    /** Promise 10: "of those not BARRED". The dearest is barred: the next one; all are: none. */
    static void theDearestIsBarred() {
        DayNames x = Check.town("b99 0 9 8 7 0 0;r3;");
        Check.nights(x, 0, 1, 2, -5);
    }

    /** Promise 10: "The highest bid has it (bids for unlike NAMES stand against one another)". By one coin. */
    static void theHighestByOneCoin() {
        sells("b9 0 6 0 0 0 0;b9 0 0 5 0 0 0;", 0, 3, 9);
        sells("b9 0 5 0 0 0 0;b9 0 0 6 0 0 0;", 1, 9, 3);
        sells("b9 0 5 0 0 0 0;b9 0 6 0 0 0 0;", 0, 9, 3);
    }

    /** Promise 10: "of several one's own last, else that of the lowest BIDDER." */
    static void alikeBids() {
        sells("b9 0 0 0 0 0 5;b9 0 5 0 0 0 0;", 4, 4, 9);
        sells("b9 0 0 0 0 0 0;b9 0 0 0 0 5 0;b9 0 0 5 0 0 0;b9 0 5 0 0 0 0;", 3, 9, 4, 9, 9);
        sells("b9 0 4 0 0 0 0;b9 0 0 5 0 0 0;b9 0 0 0 5 0 0;b9 0 0 0 0 5 0;", 1, 9, 4, 9, 9);
        DayNames x = Check.town(NOBODY + NOBODY + NOBODY + "b9 0 0 0 5 0 0;");
        x.bids(1, 5);
        Check.nights(x, 2);
        Check.purses(x, 0, 0, 0, 4);
        Check.due("SPENT", x.now(2), 0);
    }

    /** Promise 10: "He pays 1 coin more than the next highest bid (of whatever NAME), his own bid at most". */
    static void whatIsPaid() {
        int[] others = {1, 2, 8, 9, 10};
        int[] pays = {2, 3, 9, 10, 10};
        for (int i = 0; i < others.length; i++) {
            sells("b20 0 10 0 0 0 0;b20 0 0 " + others[i] + " 0 0 0;", 0, 20 - pays[i], 20);
            sells("b20 0 10 0 0 0 0;b20 0 " + others[i] + " 0 0 0 0;", 0, 20 - pays[i], 20);
        }
        sells("b20 0 10 0 0 0 0;b20 0 0 11 0 0 0;", 1, 20, 20 - 11);
        sells("b20 0 10 0 0 0 0;b20 0 0 12 0 0 0;", 1, 20, 20 - 11);
        sells("b20 0 20 0 0 0 0;b20 0 20 0 0 0 0;", 0, 0, 20);
    }

    /** Promise 10: "1 coin more than the next highest bid". Of several others the highest, wherever it stands. */
    static void theNextHighestOfSeveral() {
        sells("b20 0 9 0 0 0 0;b20 0 0 6 0 0 0;b20 0 0 0 4 0 0;b20 0 0 0 0 2 0;", 0, 13, 20, 20, 20);
        sells("b20 0 2 0 0 0 0;b20 0 0 4 0 0 0;b20 0 0 0 6 0 0;b20 0 0 0 0 9 0;", 3, 20, 20, 20, 13);
        sells("b20 0 6 0 0 0 0;b20 0 0 6 0 0 0;b20 0 0 0 9 0 0;b20 0 0 0 0 2 0;", 2, 20, 20, 13, 20);
    }

    /** Promise 10: "(1, if there is none)". For the least bid and for the dearest one. */
    static void paidWithoutAnother() {
        sells("b20 0 1 0 0 0 0;", 0, 19);
        sells("b20 0 20 0 0 0 0;b99 9 0 0 0 0 0;b0 0 20 20 20 20 20;", 0, 19, 99 + 9, 0);
    }

    // ---- night: wages, debts

    /** Promise 10: "Then each BIDDER has his WAGE." Who bought, who did not, who never bids; 0 and 9. */
    static void wages() {
        sells("b9 9 5 0 0 0 0;b9 0 4 0 0 0 0;b0 9 0 0 0 0 0;b99 9 0 0 0 0 0;", 0, 9 - 5 + 9, 9, 9, 108);
        DayNames own = Check.town("b3 9 1 0 0 0 0;b4 0 0 0 0 0 0;");
        ownDays(own, 4);
        Check.purses(own, 12, 4);
    }

    /** Promise 10: "Then each BIDDER has his WAGE." Behind the bids: it buys nothing on the same NIGHT. */
    static void wagesComeBehindTheBids() {
        DayNames x = Check.town("b0 5 5 0 0 0 0;b1 0 0 1 0 0 0;");
        Check.nights(x, 1);
        Check.purses(x, 5, 0);
        Check.nights(x, 0);
        Check.purses(x, 9, 0);
    }

    /** Promise 10: "WHO owes pays, if his PURSE has so much, else he DEFAULTS". So much, and one coin less. */
    static void justEnoughForADebt() {
        String[] coins = {"4", "5", "3"};
        int[] how = {1, 2, 1};
        int[][] purses = {{0, 4}, {4, 0}, {1, 3}};
        for (int i = 0; i < 3; i++) {
            DayNames x = Check.town("b5 0 1 0 0 0 0;" + NOBODY + "o0 1 " + coins[i] + " 1 0;");
            Check.nights(x, 0);
            Check.due("a DEBT of " + coins[i], x.debt(0, 5), how[i]);
            Check.purses(x, purses[i]);
        }
    }

    /** Promise 10: "Then DEBTS". The WAGE of the same DAY is there already: just enough with it, one less without. */
    static void wagesPayDebts() {
        DayNames x = Check.town("b1 9 1 0 0 0 0;" + NOBODY + "o0 1 9 1 0;");
        Check.nights(x, 0);
        Check.due("how it is", x.debt(0, 5), 1);
        Check.purses(x, 0, 9);
        DayNames y = Check.town("b1 8 1 0 0 0 0;" + NOBODY + "o0 1 9 1 0;");
        Check.nights(y, 0);
        Check.due("how it is", y.debt(0, 5), 2);
        Check.purses(y, 8, 0);
    }

    /** Promise 10: "due on this DAY (it is the k-th of that NAME since the beginning)". For each k: the DAY ahead, the DAY. */
    static void theKthDay() {
        for (int k = 1; k <= 5; k++) {
            DayNames x = Check.town("b50 0 1 0 0 0 0;" + NOBODY + "r0;o0 1 7 " + k + " 0;");
            for (int i = 1; i < k; i++) {
                x.night();
                Check.due("k " + k + " on DAY " + i, x.debt(0, 5), 0);
            }
            x.night();
            Check.due("k " + k + " on the DAY", x.debt(0, 5), 1);
            Check.purses(x, 50 - k - 7, 7);
            x.night();
            Check.purses(x, 50 - k - 8, 7);
        }
    }

    /** Promise 10: "it is the k-th of that NAME since the beginning". DAYS of other NAMES, SKIPPED ones do not count. */
    static void theKthOfThatName() {
        DayNames x = Check.town("b9 0 0 0 0 0 0;" + NOBODY + "o0 1 1 2 3;");
        ownDays(x, 2, 3, 2);
        Check.nights(x, -5);
        Check.due("the first of NAME 3", x.debt(0, 5), 0);
        ownDays(x, 4, 2);
        Check.due("two of NAME 2 do not count", x.debt(0, 5), 0);
        ownDays(x, 3);
        Check.due("the second of NAME 3", x.debt(0, 5), 1);
    }

    /** Promise 10: "Then DEBTS, by numbers". What one gets by a DEBT, he pays by a later one, not by one ahead. */
    static void debtsByNumbers() {
        String four = "b5 0 0 0 0 0 0;" + NOBODY + NOBODY + NOBODY;
        DayNames on = Check.town(four + "o0 1 5 1 0;o1 2 5 1 0;o2 3 5 1 0;o3 0 5 1 0;");
        ownDays(on, 0);
        for (int d = 0; d < 4; d++) Check.due("debt(" + d + ", 5)", on.debt(d, 5), 1);
        Check.purses(on, 5, 0, 0, 0);
        DayNames back = Check.town(four + "o3 0 5 1 0;o2 3 5 1 0;o1 2 5 1 0;o0 1 5 1 0;");
        ownDays(back, 0);
        for (int d = 0; d < 4; d++) Check.due("debt(" + d + ", 5) backwards", back.debt(d, 5), d == 3 ? 1 : 2);
        Check.purses(back, 0, 5, 0, 0);
    }

    /** Promise 10: "Then DEBTS, by numbers". All six on one DAY, till his PURSE has no more. */
    static void sixDebtsOnADay() {
        DayNames x = Check.town("b11 0 0 0 0 0 0;" + NOBODY + "o0 1 4 1 0;".repeat(3) + "o0 1 3 1 0;o0 1 4 1 0;o0 1 1 1 0;");
        ownDays(x, 0);
        int[] how = {1, 1, 2, 1, 2, 2};
        for (int d = 0; d < 6; d++) Check.due("debt(" + d + ", 5)", x.debt(d, 5), how[d]);
        Check.purses(x, 0, 11);
        Check.due("DEFAULTS", x.now(3), 3);
    }

    /** Promise 10: "(nothing is paid; never again)". Not in part, and not when he has so much. */
    static void aDefaultIsForEver() {
        DayNames x = Check.town("b3 9 0 0 0 0 0;" + NOBODY + "o0 1 20 1 0;");
        ownDays(x, 0);
        Check.due("DEFAULT", x.debt(0, 5), 2);
        Check.purses(x, 12, 0);
        ownDays(x, 1, 0, 1, 0);
        Check.due("DEFAULT", x.debt(0, 5), 2);
        Check.due("DEFAULTS", x.now(3), 1);
        Check.purses(x, 48, 0);
    }

    // ---- night: skipped

    /** Promise 10: "With no bid at all the DAY is not: it is no DAY, nobody has a WAGE: SKIPPED." */
    static void skippedIsNoDay() {
        DayNames x = Check.town("b0 9 1 0 0 0 0;b5 9 0 0 0 0 0;o1 0 1 1 0;");
        Check.nights(x, -5, -5, -5);
        Check.due("DAYS", x.now(0), 0);
        Check.due("SKIPPED", x.now(1), 3);
        Check.purses(x, 0, 5);
        Check.due("how the DEBT is", x.debt(0, 5), 0);
        Check.due("UNDONE", x.now(5), 3);
    }

    /** Promise 10: "With no bid at all the DAY is not". With one bid of one coin it is. */
    static void oneCoinMakesADay() {
        DayNames x = Check.town(NOBODY + NOBODY + NOBODY + "b1 1 0 0 0 0 1;");
        Check.nights(x, 4, -5);
        DayNames own = new DayNames();
        own.bids(0, 1);
        Check.nights(own, 0, -5);
    }
}
