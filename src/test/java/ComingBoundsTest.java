/** The bounds of what comes: promises 13, 14 and 15. */
public final class ComingBoundsTest {
    private static final String NOBODY = "b0 0 0 0 0 0 0;";
    /** Names 0 and 1 by turns; 8 coins more on each DAY. */
    private static final String BY_TURNS = "b99 9 1 1 0 0 0;";

    public static void main(String[] args) {
        Check.runAll(ComingBoundsTest.class);
    }

    private static void bad(String call, int got) {
        Check.due(call, got, DayNames.BAD);
    }

    /** The last BIDDER buys NAME 4 for dear on a NIGHT, as soon as he has 20 coins: each so many NIGHTS. */
    private static String saver(int purse, int other, int k) {
        return "r0;b99 9 " + other + " 0 0 0 0;b" + purse + " 1 0 0 0 0 20;o0 1 1 " + k + " 4;";
    }

    private static void nights(DayNames x, int many) {
        for (int i = 1; i <= many; i++) x.night();
    }

    // ---- in n nights

    /** Promise 13: "IN n (0 .. 20) NIGHTS: the NAME of the latest DAY (NONE: none yet), DAYS". 0, 20, what is beside. */
    static void leastAndMostNights() {
        DayNames x = Check.town(BY_TURNS);
        Check.due("inNights(0, 0)", x.inNights(0, 0), DayNames.NONE);
        Check.due("inNights(0, 1)", x.inNights(0, 1), 0);
        Check.due("inNights(1, 0)", x.inNights(1, 0), 0);
        Check.due("inNights(1, 1)", x.inNights(1, 1), 1);
        Check.due("inNights(19, 0)", x.inNights(19, 0), 0);
        Check.due("inNights(19, 1)", x.inNights(19, 1), 19);
        Check.due("inNights(20, 0)", x.inNights(20, 0), 1);
        Check.due("inNights(20, 1)", x.inNights(20, 1), 20);
        int[] wrong = {-1, 21, Integer.MIN_VALUE, Integer.MAX_VALUE};
        for (int n : wrong) {
            for (int what = 0; what <= 2; what++) bad("inNights(" + n + ", " + what + ")", x.inNights(n, what));
        }
        Check.due("DAYS", x.now(0), 0);
    }

    /** Promise 13: "the NAME (what = 0; NONE), DAYS (1), DEFAULTS (2). BAD." */
    static void whatIsTold() {
        DayNames x = Check.town(BY_TURNS);
        int[] wrong = {-1, 3, Integer.MIN_VALUE, Integer.MAX_VALUE};
        for (int what : wrong) {
            bad("inNights(0, " + what + ")", x.inNights(0, what));
            bad("inNights(20, " + what + ")", x.inNights(20, what));
        }
        Check.due("inNights(20, 2)", x.inNights(20, 2), 0);
    }

    /** Promise 13: "the NAME of the latest DAY (NONE: none yet)". Behind SKIPPED NIGHTS alone, and behind a DAY and them. */
    static void noneYet() {
        DayNames x = Check.town(NOBODY);
        Check.nights(x, -5, -5);
        Check.due("inNights(0, 0)", x.inNights(0, 0), DayNames.NONE);
        Check.due("inNights(20, 0)", x.inNights(20, 0), DayNames.NONE);
        Check.due("inNights(20, 1)", x.inNights(20, 1), 0);
        x.bids(3, 1);
        Check.nights(x, 3, -5);
        Check.due("inNights(0, 0)", x.inNights(0, 0), 3);
        Check.due("inNights(20, 0)", x.inNights(20, 0), 3);
        Check.due("inNights(20, 1)", x.inNights(20, 1), 1);
    }

    /** Promise 13: "DEFAULTS in all". Those there are already, and those to come, on the NIGHT and not ahead of it. */
    static void defaultsInAll() {
        DayNames x = Check.town(BY_TURNS + NOBODY + "o1 0 1 1 0;o1 0 1 5 0;o1 0 1 5 1;o0 1 1 1 2;");
        Check.due("inNights(0, 2)", x.inNights(0, 2), 0);
        Check.due("inNights(1, 2)", x.inNights(1, 2), 1);
        Check.due("inNights(8, 2)", x.inNights(8, 2), 1);
        Check.due("inNights(9, 2)", x.inNights(9, 2), 2);
        Check.due("inNights(10, 2)", x.inNights(10, 2), 3);
        Check.due("inNights(20, 2)", x.inNights(20, 2), 3);
        x.night();
        Check.due("inNights(0, 2)", x.inNights(0, 2), 1);
        Check.due("inNights(9, 2)", x.inNights(9, 2), 3);
        Check.due("DEFAULTS now", x.now(3), 1);
    }

    /** Promise 13: "NIGHTS to come go on beyond DAY 60". To DAY 79 and 80. */
    static void beyondDaySixty() {
        DayNames x = Check.town(BY_TURNS);
        nights(x, 59);
        Check.due("inNights(1, 1)", x.inNights(1, 1), 60);
        Check.due("inNights(2, 1)", x.inNights(2, 1), 61);
        nights(x, 1);
        Check.due("inNights(0, 1)", x.inNights(0, 1), 60);
        Check.due("inNights(0, 0)", x.inNights(0, 0), 1);
        Check.due("inNights(1, 0)", x.inNights(1, 0), 0);
        Check.due("inNights(19, 0)", x.inNights(19, 0), 0);
        Check.due("inNights(20, 0)", x.inNights(20, 0), 1);
        Check.due("inNights(20, 1)", x.inNights(20, 1), 80);
        Check.due("night()", x.night(), DayNames.STATE);
        bad("day(61)", x.day(61));
    }

    /** Promise 13: "beyond 99 SKIPPED". NIGHTS to come are SKIPPED, too, and nothing is refused. */
    static void beyondNinetyNineSkipped() {
        DayNames x = Check.town("b9 0 1 0 0 0 0;");
        nights(x, 100);
        Check.due("SKIPPED", x.now(1), 99);
        Check.due("inNights(20, 0)", x.inNights(20, 0), 0);
        Check.due("inNights(20, 1)", x.inNights(20, 1), 1);
        Check.due("purseIn(0, 20)", x.purseIn(0, 20), 8);
        Check.due("SKIPPED still", x.now(1), 99);
    }

    /** Promise 13: "(Nothing is changed; without one's own bid, but where told". It would have had the first NIGHT. */
    static void withoutOnesOwnBid() {
        DayNames x = Check.town(BY_TURNS);
        x.bids(4, 40);
        Check.due("inNights(1, 0)", x.inNights(1, 0), 0);
        Check.due("purseIn(0, 1)", x.purseIn(0, 1), 99 + 8);
        Check.nights(x, 4);
        Check.purses(x, 99 + 9);
    }

    // ---- purses

    /** Promise 14: "A BIDDER's PURSE IN n NIGHTS. BAD." n of 0 and 20, what is beside; the first BIDDER, the last. */
    static void pursesIn() {
        DayNames x = Check.town(BY_TURNS + NOBODY + "b0 9 0 0 0 0 0;b99 0 0 0 0 0 0;");
        Check.due("purseIn(0, 0)", x.purseIn(0, 0), 99);
        Check.due("purseIn(0, 1)", x.purseIn(0, 1), 107);
        Check.due("purseIn(0, 20)", x.purseIn(0, 20), 99 + 160);
        Check.due("purseIn(2, 20)", x.purseIn(2, 20), 180);
        Check.due("purseIn(3, 0)", x.purseIn(3, 0), 99);
        Check.due("purseIn(3, 20)", x.purseIn(3, 20), 99);
        int[] wrongNights = {-1, 21, Integer.MIN_VALUE, Integer.MAX_VALUE};
        for (int n : wrongNights) bad("purseIn(0, " + n + ")", x.purseIn(0, n));
        int[] wrongBidders = {-1, 4, Integer.MIN_VALUE, Integer.MAX_VALUE};
        for (int b : wrongBidders) bad("purseIn(" + b + ", 0)", x.purseIn(b, 0));
        bad("purseIn(4, 21)", x.purseIn(4, 21));
    }

    /** Promise 14: "NIGHTS to come go on beyond DAY 60". The PURSE of DAY 80. */
    static void pursesBeyondDaySixty() {
        DayNames x = Check.town(BY_TURNS);
        nights(x, 60);
        Check.due("purseIn(0, 0)", x.purseIn(0, 0), 99 + 8 * 60);
        Check.due("purseIn(0, 20)", x.purseIn(0, 20), 99 + 8 * 80);
        Check.purses(x, 99 + 8 * 60);
    }

    /** Promise 14: "nobody has a WAGE: SKIPPED." In NIGHTS to come, neither. */
    static void pursesOfSkippedNights() {
        DayNames x = Check.town("b9 5 1 0 0 0 0;b0 9 0 0 0 0 0;");
        Check.due("purseIn(0, 1)", x.purseIn(0, 1), 13);
        Check.due("purseIn(0, 20)", x.purseIn(0, 20), 13);
        Check.due("purseIn(1, 20)", x.purseIn(1, 20), 9);
    }

    // ---- when a debt falls due

    /** Promise 15: "in how many NIGHTS (1 .. 40) it is due first; 0: it was; NONE." Tonight, and it was. */
    static void tonight() {
        DayNames x = Check.town(BY_TURNS + NOBODY + "o0 1 1 1 0;o1 0 50 1 0;o0 1 1 1 1;");
        Check.due("falls(0)", x.falls(0), 1);
        Check.due("falls(1)", x.falls(1), 1);
        Check.due("falls(2)", x.falls(2), 2);
        x.night();
        Check.due("falls(0): it was paid", x.falls(0), 0);
        Check.due("falls(1): it was a DEFAULT", x.falls(1), 0);
        Check.due("falls(2)", x.falls(2), 1);
        x.undo();
        Check.due("falls(0): it was not", x.falls(0), 1);
    }

    /** Promise 15: "in how many NIGHTS (1 .. 40) it is due first". NIGHT 40, and NIGHT 41, which is none. */
    static void theFortiethNight() {
        // 20 coins behind 20 DAYS; 19 are paid on NIGHT 21, so that there are 20 again behind DAY 39
        DayNames in = Check.town(saver(0, 18, 2));
        Check.due("falls(0)", in.falls(0), 40);
        Check.due("the first of that NAME", Check.town(saver(0, 18, 1)).falls(0), 21);
        // 20 are paid, so that there are 20 again behind DAY 40
        DayNames out = Check.town(saver(0, 19, 2));
        Check.due("falls(0)", out.falls(0), DayNames.NONE);
        nights(out, 1);
        Check.due("falls(0) a NIGHT on", out.falls(0), 40);
        nights(out, 39);
        Check.due("falls(0) ahead of the NIGHT", out.falls(0), 1);
        nights(out, 1);
        Check.due("falls(0) behind it", out.falls(0), 0);
    }

    /** Promise 15: "FALLS; NONE. BAD." What is SKIPPED for ever, and what is of a NAME that nobody wants. */
    static void never() {
        DayNames x = Check.town("b9 0 1 0 0 0 0;" + NOBODY + "o0 1 1 1 0;o0 1 1 2 0;o0 1 1 1 4;");
        Check.due("falls(0)", x.falls(0), 1);
        Check.due("falls(1)", x.falls(1), DayNames.NONE);
        Check.due("falls(2)", x.falls(2), DayNames.NONE);
        x.bids(4, 40);
        Check.due("falls(2): not by one's OWN bid", x.falls(2), DayNames.NONE);
        x.night();
        Check.due("falls(2)", x.falls(2), 0);
    }

    /** Promise 15: "FALLS; NONE. BAD." No such DEBT. */
    static void noSuchDebt() {
        DayNames x = Check.town(BY_TURNS + NOBODY + "o0 1 1 1 0;".repeat(6));
        Check.due("falls(5)", x.falls(5), 1);
        int[] wrong = {-1, 6, Integer.MIN_VALUE, Integer.MAX_VALUE};
        for (int d : wrong) bad("falls(" + d + ")", x.falls(d));
        bad("falls(0) of none", Check.town(BY_TURNS).falls(0));
    }

    /** Promise 15: "NIGHTS to come go on beyond DAY 60". From DAY 60 to DAY 100, and from 59 not so far. */
    static void fallsBeyondDaySixty() {
        // NAME 4 on NIGHTS 20, 40, 60, 80, 100: 20 coins are paid each time
        DayNames x = Check.town(saver(1, 19, 5));
        nights(x, 59);
        Check.due("falls(0) on DAY 59", x.falls(0), DayNames.NONE);
        nights(x, 1);
        Check.due("DAYS of NAME 4", x.name(4, 0), 3);
        Check.due("falls(0) on DAY 60", x.falls(0), 40);
    }

    /** Promise 15: "beyond 99 SKIPPED". Nothing falls due any more, nothing is refused. */
    static void fallsBeyondNinetyNineSkipped() {
        DayNames x = Check.town("b9 0 1 0 0 0 0;" + NOBODY + "o0 1 1 1 0;o0 1 1 2 0;");
        nights(x, 100);
        Check.due("falls(0)", x.falls(0), 0);
        Check.due("falls(1)", x.falls(1), DayNames.NONE);
    }
}
