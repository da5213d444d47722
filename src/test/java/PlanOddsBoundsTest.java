/** The bounds of the PLAN and of the ODDS: promises 22 to 25. */
public final class PlanOddsBoundsTest {
    private static final String NOBODY = "b0 0 0 0 0 0 0;";

    public static void main(String[] args) {
        Check.runAll(PlanOddsBoundsTest.class);
    }

    private static void plans(DayNames x, int... names) {
        for (int name : names) x.plan(name);
    }

    private static void comesTo(DayNames x, int defaults, int... purses) {
        Check.due("planned(-1)", x.planned(-1), defaults);
        for (int b = 0; b < purses.length; b++) Check.due("planned(" + b + ")", x.planned(b), purses[b]);
    }

    private static void chances(DayNames x, int d, int p, int n, int upper, int lower) {
        Check.due("odds(" + d + ", " + p + ", " + n + ", 0)", x.odds(d, p, n, 0), upper);
        Check.due("odds(" + d + ", " + p + ", " + n + ", 1)", x.odds(d, p, n, 1), lower);
    }

    // ---- the plan

    /** Promise 22: "PLAN (8 at most)": "how many it has. BAD; FULL." The eighth, the ninth. */
    static void theEighth() {
        DayNames x = new DayNames();
        for (int i = 1; i <= 8; i++) Check.due("plan() number " + i, x.plan(0), i);
        Check.due("plan() number 9", x.plan(0), DayNames.FULL);
        Check.due("plan() number 9, none", x.plan(-1), DayNames.FULL);
        Check.due("count(4)", x.count(4), 8);
    }

    /** Promise 22: "the first of these: BAD (a number is not as told, or there is no such thing), STATE (as told), FULL." */
    static void aWrongNinth() {
        DayNames x = new DayNames();
        for (int i = 1; i <= 8; i++) x.plan(-1);
        Check.due("plan(-2)", x.plan(-2), DayNames.BAD);
        Check.due("plan(5)", x.plan(5), DayNames.BAD);
        Check.due("plan(4)", x.plan(4), DayNames.FULL);
    }

    /** Promise 22: "The PLAN gets a NAME (-1: none): how many it has. BAD; FULL." The least, the most, what is beside. */
    static void leastAndMostPlanned() {
        DayNames x = new DayNames();
        int[] wrong = {-2, 5, Integer.MIN_VALUE, Integer.MAX_VALUE, DayNames.NONE, -5};
        for (int name : wrong) Check.due("plan(" + name + ")", x.plan(name), DayNames.BAD);
        Check.due("count(4)", x.count(4), 0);
        Check.due("plan(-1)", x.plan(-1), 1);
        Check.due("plan(0)", x.plan(0), 2);
        Check.due("plan(4)", x.plan(4), 3);
    }

    /** Promise 22: "Refused, and nothing changes". What was refused for it was full, or bad, is not in the PLAN. */
    static void refusedIsNotPlanned() {
        DayNames x = Check.town("b0 1 0 0 0 0 0;");
        plans(x, -2, 5);
        comesTo(x, 0, 0);
        plans(x, 0, 0, 0, 0, 0, 0, 0, 0, 0, 0);
        comesTo(x, 0, 8);
    }

    /** Promise 23: "The PLAN is empty: how many it had." None, one, all; anew behind it. */
    static void unplanNoneOneAll() {
        DayNames x = Check.town("b0 1 0 0 0 0 0;");
        Check.due("unplan()", x.unplan(), 0);
        plans(x, 2);
        comesTo(x, 0, 1);
        Check.due("unplan()", x.unplan(), 1);
        comesTo(x, 0, 0);
        plans(x, 0, 1, 2, 3, 4, -1, 0, 1);
        Check.due("unplan()", x.unplan(), 8);
        Check.due("unplan()", x.unplan(), 0);
        comesTo(x, 0, 0);
        Check.due("plan(3)", x.plan(3), 1);
        comesTo(x, 0, 1);
    }

    /** Promise 24: "By the PLAN: DEFAULTS more (b = -1), a BIDDER's PURSE. BAD." No PLAN: none more, PURSES as they are. */
    static void noPlan() {
        DayNames x = Check.town("b7 9 1 0 0 0 0;b99 9 0 0 0 0 0;o0 1 50 1 0;");
        comesTo(x, 0, 7, 99);
        x.night();
        Check.due("DEFAULTS", x.now(3), 1);
        comesTo(x, 0, 15, 108);
        Check.due("planned(-1) of a new object", new DayNames().planned(-1), 0);
    }

    /** Promise 24: "DEFAULTS more (b = -1), a BIDDER's PURSE. BAD." The last BIDDER, and what is beside. */
    static void wrongNumbersOfPlanned() {
        DayNames x = Check.town(NOBODY + NOBODY + NOBODY + "b5 0 0 0 0 0 0;");
        Check.due("planned(3)", x.planned(3), 5);
        int[] wrong = {-2, 4, Integer.MIN_VALUE, Integer.MAX_VALUE, DayNames.NONE};
        for (int b : wrong) Check.due("planned(" + b + ")", x.planned(b), DayNames.BAD);
        Check.due("planned(0) of no BIDDERS", new DayNames().planned(0), DayNames.BAD);
    }

    /** Promise 24: "or none (-1: SKIPPED)". Nobody has a WAGE then, and no DAY of a NAME has been. */
    static void aPlanOfNone() {
        DayNames x = Check.town("b0 9 0 0 0 0 0;" + NOBODY + "o1 0 1 1 0;o1 0 1 2 0;");
        plans(x, -1, -1, -1, -1, -1, -1, -1, -1);
        comesTo(x, 0, 0, 0);
        x.unplan();
        plans(x, -1, 0, -1, -1, 0, -1);
        comesTo(x, 2, 18, 0);
    }

    /** Promise 24: "whoever bids (nobody pays, BARS do not matter; WAGES, DEBTS as told)". A NAME eight times on end. */
    static void nobodyPaysAndNoBars() {
        DayNames x = Check.town("r7;b9 9 20 0 0 0 0;b50 0 0 0 0 0 0;o1 0 50 5 0;");
        plans(x, 0, 0, 0, 0);
        comesTo(x, 0, 9 + 36, 50);
        plans(x, 0);
        comesTo(x, 0, 9 + 45 + 50, 0);
        plans(x, 0, 0, 0);
        comesTo(x, 0, 9 + 72 + 50, 0);
        Check.due("DAYS", x.now(0), 0);
        Check.due("BARRED", x.name(0, 2), 0);
    }

    /** Promise 24: "DEBTS as told". The k-th of that NAME counts from the beginning, not from the PLAN on. */
    static void daysOfBeforeCount() {
        DayNames x = Check.town("r0;b99 0 1 0 0 0 0;" + NOBODY + "o0 1 7 3 0;o1 0 8 1 0;");
        Check.nights(x, 0, 0);
        plans(x, 0);
        comesTo(x, 0, 97 - 7, 7);
        Check.due("DEFAULTS", x.now(3), 1);
    }

    /** Promise 24: "how many DEFAULTS more there are behind it". All six by one DAY; those of before are none more. */
    static void sixDefaultsMore() {
        DayNames x = Check.town(NOBODY + NOBODY + "o0 1 1 1 3;".repeat(6));
        plans(x, 2);
        comesTo(x, 0, 0, 0);
        plans(x, 3);
        comesTo(x, 6, 0, 0);
        x.bids(3, 1);
        Check.nights(x, 3);
        comesTo(x, 0, 0, 0);
    }

    /** Promise 24: "WHO owes pays, if his PURSE has so much". By a PLAN: just enough, and one coin less. */
    static void justEnoughByAPlan() {
        DayNames x = Check.town("b0 2 0 0 0 0 0;" + NOBODY + "o0 1 6 1 4;o0 1 1 2 4;");
        plans(x, 0, 1, 4, 4);
        comesTo(x, 0, 1, 7);
        DayNames y = Check.town("b0 2 0 0 0 0 0;" + NOBODY + "o0 1 7 1 4;o0 1 1 2 4;");
        plans(y, 0, 1, 4, 4);
        comesTo(y, 1, 7, 1);
    }

    /** Promise 24: "(Nothing is changed; without one's own bid, but where told; NIGHTS to come go on beyond DAY 60". */
    static void plannedBeyondTheEnd() {
        DayNames x = Check.town("r0;b99 2 1 0 0 0 0;" + NOBODY + "o0 1 50 5 4;");
        for (int i = 1; i <= 60; i++) x.night();
        x.bids(3, 40);
        plans(x, 4, 4, 4, 4);
        comesTo(x, 0, 159 + 8, 0);
        plans(x, 4, 4, 4, 4);
        comesTo(x, 0, 159 + 16 - 50, 50);
        Check.due("DAYS", x.now(0), 60);
        Check.due("bids(0, 1)", x.bids(0, 1), 3);
        DayNames skipped = Check.town("b0 1 0 0 0 0 0;");
        for (int i = 1; i <= 99; i++) skipped.night();
        plans(skipped, -1, 0, -1, 0);
        comesTo(skipped, 0, 2);
    }

    // ---- the odds

    /** Promise 25: "ODDS by p (0 .. 10) of a DEBT, n (0 .. 6)". The least, the most, and what is beside. */
    static void wrongNumbersOfOdds() {
        DayNames x = Check.town("b9 0 1 0 0 0 0;" + NOBODY + "o0 1 1 1 0;");
        int[][] wrong = {{-1, 0, 0, 0}, {1, 0, 0, 0}, {0, -1, 0, 0}, {0, 11, 0, 0}, {0, 0, -1, 0}, {0, 0, 7, 0},
            {0, 0, 0, -1}, {0, 0, 0, 2}, {1, 11, 7, 2},
            {Integer.MIN_VALUE, 0, 0, 0}, {Integer.MAX_VALUE, 0, 0, 0}, {0, Integer.MIN_VALUE, 0, 0},
            {0, Integer.MAX_VALUE, 0, 0}, {0, 0, Integer.MIN_VALUE, 0}, {0, 0, Integer.MAX_VALUE, 0},
            {0, 0, 0, Integer.MIN_VALUE}, {0, 0, 0, Integer.MAX_VALUE}};
        for (int[] w : wrong) Check.due("a wrong odds()", x.odds(w[0], w[1], w[2], w[3]), DayNames.BAD);
        chances(x, 0, 0, 0, 0, 1);
        chances(x, 0, 10, 6, 0, 1);
    }

    /** Promise 25: "(0 .. 6)". No NIGHT, six of them; a DEBT that is due tonight. */
    static void noNightAndSix() {
        DayNames x = Check.town("b9 0 1 0 0 0 0;" + NOBODY + "o0 1 1 1 0;");
        for (int p = 0; p <= 10; p++) chances(x, 0, p, 0, 0, 1);
        chances(x, 0, 5, 1, 1, 2);
        chances(x, 0, 5, 6, 63, 64);
        chances(x, 0, 9, 6, 468559, 1000000);
        chances(x, 0, 1, 6, 999999, 1000000);
    }

    /** Promise 25: "by p of 10 (a strike)". Of 0 there is none: all is sure. Of 10 there is nothing else. */
    static void noStrikeAndNothingElse() {
        DayNames x = Check.town("r0;b9 1 1 0 0 0 0;" + NOBODY + "o0 1 1 3 0;");
        for (int n = 0; n <= 6; n++) {
            chances(x, 0, 0, n, n >= 3 ? 1 : 0, 1);
            chances(x, 0, 10, n, 0, 1);
        }
    }

    /** Promise 25: "that it was due by then". It takes each of six NIGHTS, or one more than there are. */
    static void allSixNights() {
        DayNames x = Check.town("b9 1 1 1 0 0 0;" + NOBODY + "o0 1 1 3 1;o0 1 1 4 0;");
        chances(x, 0, 5, 6, 1, 64);
        chances(x, 0, 5, 5, 0, 1);
        chances(x, 0, 1, 6, 531441, 1000000);
        chances(x, 0, 9, 6, 1, 1000000);
        chances(x, 1, 5, 6, 0, 1);
        chances(x, 1, 0, 6, 0, 1);
    }

    /** Promise 25: "upper (what = 0), lower number (1), in least terms". Where 2, 5, 10 or nothing goes in both. */
    static void inLeastTerms() {
        DayNames x = Check.town("b9 0 1 0 0 0 0;" + NOBODY + "o0 1 1 1 0;");
        int[] uppers = {1, 9, 4, 7, 3, 1, 2, 3, 1, 1, 0};
        int[] lowers = {1, 10, 5, 10, 5, 2, 5, 10, 5, 10, 1};
        for (int p = 0; p <= 10; p++) chances(x, 0, p, 1, uppers[p], lowers[p]);
        chances(x, 0, 2, 2, 24, 25);
        chances(x, 0, 8, 2, 9, 25);
    }

    /** Promise 25: "(or was already)". One that was paid, one that was a DEFAULT: whatever p and n are. */
    static void wasAlready() {
        DayNames x = Check.town("b9 0 1 0 0 0 0;" + NOBODY + "o0 1 1 1 0;o1 0 50 1 0;");
        x.night();
        for (int d = 0; d < 2; d++) {
            chances(x, d, 10, 0, 1, 1);
            chances(x, d, 0, 0, 1, 1);
            chances(x, d, 10, 6, 1, 1);
            chances(x, d, 3, 6, 1, 1);
        }
    }

    /** Promise 25: "each NIGHT nobody bids, by p of 10 (a strike), each for itself". A strike brings no WAGE, ends no BAR. */
    static void aStrikeIsSkipped() {
        // he has 2 coins for NAME 1 but on the second DAY; a strike does not bring it nearer
        DayNames x = Check.town("b1 2 1 2 0 0 0;" + NOBODY + "o0 1 1 1 1;");
        Check.due("falls(0)", x.falls(0), 2);
        chances(x, 0, 5, 1, 0, 1);
        chances(x, 0, 5, 2, 1, 4);
        chances(x, 0, 5, 3, 1, 2);
    }

    /** Promise 25: "that it was due by then (or was already): a fraction." Never: 0 of 1. */
    static void neverDue() {
        DayNames x = Check.town("b9 0 1 0 0 0 0;" + NOBODY + "o0 1 1 1 4;o0 1 1 2 0;");
        x.bids(4, 40);
        for (int n = 0; n <= 6; n++) {
            chances(x, 0, 0, n, 0, 1);
            chances(x, 1, 5, n, 0, 1);
        }
    }

    /** Promise 25: "NIGHTS to come go on beyond DAY 60, beyond 99 SKIPPED." */
    static void oddsBeyondTheEnd() {
        // 15 are paid for NAME 4 on NIGHTS 1, 16, 31, 46, 61
        DayNames x = Check.town("r0;b99 9 14 0 0 0 0;b20 1 0 0 0 0 20;o0 1 1 5 4;");
        for (int i = 1; i <= 60; i++) x.night();
        Check.due("DAYS of NAME 4", x.name(4, 0), 4);
        chances(x, 0, 5, 0, 0, 1);
        chances(x, 0, 5, 1, 1, 2);
        chances(x, 0, 5, 6, 63, 64);
        DayNames skipped = Check.town("b9 0 1 0 0 0 0;" + NOBODY + "o0 1 1 1 0;o0 1 1 2 0;");
        for (int i = 1; i <= 100; i++) skipped.night();
        Check.due("SKIPPED", skipped.now(1), 99);
        chances(skipped, 0, 10, 0, 1, 1);
        chances(skipped, 1, 0, 6, 0, 1);
    }
}
