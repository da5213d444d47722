/** The bounds of what can be bought: promises 16, 17 and 18. */
public final class BuyBoundsTest {
    /** Names 0 and 1 by turns, for a bid of 1. */
    private static final String BY_TURNS = "b99 9 1 1 0 0 0;";

    public static void main(String[] args) {
        Check.runAll(BuyBoundsTest.class);
    }

    private static void buys(DayNames x, int name, int n, int night, int cost) {
        Check.due("buy(" + name + ", " + n + ", 0)", x.buy(name, n, 0), night);
        Check.due("buy(" + name + ", " + n + ", 1)", x.buy(name, n, 1), cost);
    }

    private static void holds(DayNames x, int name, int n, int cost, int days) {
        Check.due("hold(" + name + ", " + n + ", 0)", x.hold(name, n, 0), cost);
        Check.due("hold(" + name + ", " + n + ", 1)", x.hold(name, n, 1), days);
    }

    private static void rings(String town, int n, int less) {
        DayNames x = Check.town(town);
        Check.due("ring(0, 1, " + n + ")", x.ring(0, 1, n), less);
        Check.due("ring(1, 0, " + n + ")", x.ring(1, 0, n), less);
    }

    private static void nights(DayNames x, int many) {
        for (int i = 1; i <= many; i++) x.night();
    }

    /** BIDDER 1 pays 2 for NAME 0 on as many NIGHTS as he has pairs of coins; behind them NAME 1 comes for a bid of 1. */
    private static DayNames tillHeIsPoor(int purse) {
        return Check.town("r0;b99 0 0 1 0 0 0;b" + purse + " 0 2 0 0 0 0;");
    }

    // ---- buy

    /** Promise 16: "BUY a NAME within n (1 .. 10) NIGHTS". What comes free on NIGHT 10 is seen, on NIGHT 11 not. */
    static void theTenthNight() {
        DayNames in = tillHeIsPoor(18);
        buys(in, 1, 10, 10, 0);
        buys(in, 1, 9, 1, 3);
        buys(in, 4, 10, 10, 2);
        buys(in, 4, 9, 1, 3);
        DayNames out = tillHeIsPoor(20);
        buys(out, 1, 10, 1, 3);
        nights(out, 1);
        buys(out, 1, 10, 10, 0);
    }

    /** Promise 16: "BUY a NAME within n (1 .. 10) NIGHTS". Within one NIGHT: tonight alone. */
    static void withinOneNight() {
        DayNames x = Check.town(BY_TURNS);
        buys(x, 0, 1, 1, 0);
        buys(x, 1, 1, 1, 2);
        buys(x, 1, 2, 2, 0);
        buys(x, 4, 1, 1, 2);
    }

    /** Promise 16: "BUY: the NIGHT (what = 0), what it costs (1); NONE. BAD." One below and one above of each number. */
    static void wrongNumbersOfBuy() {
        DayNames x = Check.town(BY_TURNS);
        int[][] wrong = {{-1, 1, 0}, {5, 1, 0}, {0, 0, 0}, {0, 11, 0}, {0, -1, 0}, {0, 1, -1}, {0, 1, 2}, {5, 11, 2},
            {Integer.MIN_VALUE, 1, 0}, {Integer.MAX_VALUE, 1, 0}, {0, Integer.MIN_VALUE, 0}, {0, Integer.MAX_VALUE, 0},
            {0, 1, Integer.MIN_VALUE}, {0, 1, Integer.MAX_VALUE}};
        for (int[] w : wrong) {
            Check.due("buy(" + w[0] + ", " + w[1] + ", " + w[2] + ")", x.buy(w[0], w[1], w[2]), DayNames.BAD);
        }
        buys(x, 0, 10, 1, 0);
        buys(x, 4, 10, 1, 2);
    }

    /** Promise 16: "of several the first". All alike; alike behind a dearer one; alike, the first of them barred. */
    static void theFirstOfSeveral() {
        buys(Check.town("r0;" + BY_TURNS), 4, 10, 1, 2);
        buys(tillHeIsPoor(4), 4, 10, 3, 2);
        buys(tillHeIsPoor(4), 1, 10, 3, 0);
        DayNames x = Check.town(BY_TURNS);
        nights(x, 1);
        buys(x, 0, 1, DayNames.NONE, DayNames.NONE);
        buys(x, 0, 10, 2, 0);
    }

    /** Promise 16: "one's OWN bid (one more than the highest bid, of whatever NAME; 0, if it comes of itself)". */
    static void oneMoreThanTheHighest() {
        buys(Check.town("b9 0 0 0 0 0 0;"), 4, 1, 1, 1);
        buys(Check.town("b9 0 1 0 0 0 0;"), 4, 1, 1, 2);
        buys(Check.town("b9 0 7 0 0 0 0;b9 0 0 0 0 0 3;"), 4, 1, 1, 8);
        buys(Check.town("b9 0 7 0 0 0 0;b9 0 0 0 0 0 7;"), 4, 1, 1, 8);
        buys(Check.town("b9 0 0 0 0 0 7;b9 0 7 0 0 0 0;"), 4, 1, 1, 0);
    }

    /** Promise 16: "(that bid is not above 40)". The dearest there can be is 21, as no WORTH is above 20: it costs that. */
    static void theDearestThereIs() {
        buys(Check.town("b99 9 20 20 0 0 0;b99 9 20 20 0 0 0;"), 4, 10, 1, 21);
        buys(Check.town("b99 9 20 20 20 20 20;r7;"), 4, 4, 1, 21);
        buys(Check.town("b99 9 20 20 20 20 20;r7;"), 4, 5, 5, 0);
    }

    /** Promise 16: "what it costs (that bid is not above 40); NONE." It is barred on each of the NIGHTS. */
    static void barredOnEachNight() {
        DayNames x = Check.town("b9 0 1 0 0 0 0;r7;");
        Check.nights(x, 0);
        buys(x, 0, 10, DayNames.NONE, DayNames.NONE);
        buys(x, 1, 10, 1, 1);
        DayNames three = Check.town("b9 0 1 1 1 1 0;r3;");
        Check.nights(three, 0);
        buys(three, 0, 3, DayNames.NONE, DayNames.NONE);
        buys(three, 0, 4, 4, 0);
        buys(three, 4, 3, 1, 2);
    }

    /** Promise 16: "as things go of themselves till then". One's OWN bid that stands is none of it, and it stays. */
    static void buyWithoutOnesOwnBid() {
        DayNames x = Check.town("b9 0 1 0 0 0 0;");
        x.bids(4, 40);
        buys(x, 4, 1, 1, 2);
        buys(x, 0, 1, 1, 0);
        buys(x, 4, 2, 2, 1);
        Check.nights(x, 4);
    }

    /** Promise 16: "NIGHTS to come go on beyond DAY 60, beyond 99 SKIPPED." */
    static void buyBeyondTheEnd() {
        DayNames x = Check.town(BY_TURNS);
        nights(x, 60);
        buys(x, 0, 10, 1, 0);
        buys(x, 1, 1, DayNames.NONE, DayNames.NONE);
        buys(x, 1, 10, 2, 0);
        buys(x, 4, 10, 1, 2);
        DayNames skipped = Check.town("b9 0 1 0 0 0 0;");
        nights(skipped, 100);
        buys(skipped, 4, 10, 1, 1);
        buys(skipped, 0, 10, DayNames.NONE, DayNames.NONE);
    }

    // ---- hold

    /** Promise 17: "HOLD a NAME for n (1 .. 6) NIGHTS from this one on". One, six, and what is beside. */
    static void oneNightAndSix() {
        DayNames x = Check.town("r0;" + BY_TURNS);
        holds(x, 4, 1, 2, 1);
        holds(x, 4, 5, 10, 5);
        holds(x, 4, 6, 12, 6);
        int[] wrong = {0, 7, -1, Integer.MIN_VALUE, Integer.MAX_VALUE};
        for (int n : wrong) {
            Check.due("hold(4, " + n + ", 0)", x.hold(4, n, 0), DayNames.BAD);
            Check.due("hold(4, " + n + ", 1)", x.hold(4, n, 1), DayNames.BAD);
        }
        Check.due("DAYS", x.now(0), 0);
        Check.due("SPENT", x.now(2), 0);
    }

    /** Promise 17: "HOLD: what it costs (what = 0), DAYS (1); NONE. BAD." NAMES and what else is told. */
    static void wrongNumbersOfHold() {
        DayNames x = Check.town(BY_TURNS);
        int[] wrong = {-1, 5, Integer.MIN_VALUE, Integer.MAX_VALUE};
        for (int name : wrong) Check.due("hold(" + name + ", 1, 0)", x.hold(name, 1, 0), DayNames.BAD);
        int[] whats = {-1, 2, Integer.MIN_VALUE, Integer.MAX_VALUE};
        for (int what : whats) Check.due("hold(0, 1, " + what + ")", x.hold(0, 1, what), DayNames.BAD);
        Check.due("hold(5, 7, 2)", x.hold(5, 7, 2), DayNames.BAD);
        holds(x, 0, 1, 2, 1);
        holds(x, 4, 1, 2, 1);
    }

    /** Promise 17: "as often as it is not barred". For each BAR: others bring a DAY between, on each NIGHT. */
    static void asOftenAsNotBarred() {
        int[] days = {6, 3, 2, 2, 2, 1, 1, 1};
        // NAMES 0 .. 3 come between for a bid of 1; by r4 all of them are barred on NIGHT 6, so that 1 is paid for it
        int[] costs = {12, 6, 4, 4, 3, 2, 2, 2};
        for (int bar = 0; bar <= 7; bar++) {
            DayNames x = Check.town("r" + bar + ";b99 9 1 1 1 1 0;");
            holds(x, 4, 6, costs[bar], days[bar]);
        }
    }

    /** Promise 17: "as often as it is not barred". NIGHTS that are SKIPPED end no BAR: it is held but once. */
    static void skippedBetween() {
        holds(new DayNames(), 4, 6, 1, 1);
        holds(Check.town("r0;"), 4, 6, 6, 6);
        DayNames barred = Check.town("r2;");
        barred.bids(4, 1);
        Check.nights(barred, 4);
        holds(barred, 4, 6, 0, 0);
    }

    /** Promise 17: "each time one's OWN bid is one more than the highest one (also if it would come of itself)". */
    static void alsoIfItWouldCome() {
        holds(Check.town("b9 0 3 0 0 0 0;"), 0, 1, 4, 1);
        holds(Check.town("b9 0 3 0 0 0 0;b9 0 3 0 0 0 0;r0;"), 0, 6, 24, 6);
        // its BIDDER keeps his coins as long as one holds it, so that he bids for it each NIGHT
        holds(Check.town("b3 0 3 0 0 0 0;r0;"), 0, 6, 24, 6);
    }

    /** Promise 17: "NONE (a bid above 40)." The dearest there can be is 21, six times: 126 is no NONE. */
    static void theDearestToHold() {
        holds(Check.town("r0;b99 9 20 20 20 20 20;b99 9 20 20 20 20 20;"), 4, 6, 126, 6);
        holds(Check.town("r0;b20 0 20 0 0 0 0;"), 4, 6, 126, 6);
    }

    /** Promise 17: "HOLD a NAME for n (1 .. 6) NIGHTS from this one on". What was SPENT before is no part of it. */
    static void whatWasSpentBefore() {
        DayNames x = Check.town("r0;b9 0 3 0 0 0 0;");
        x.bids(4, 40);
        Check.nights(x, 4);
        Check.due("SPENT", x.now(2), 4);
        holds(x, 4, 1, 4, 1);
        x.bids(3, 40);
        holds(x, 4, 2, 8, 2);
        Check.nights(x, 3);
        Check.due("SPENT", x.now(2), 8);
    }

    /** Promise 17: "NIGHTS to come go on beyond DAY 60, beyond 99 SKIPPED." */
    static void holdBeyondTheEnd() {
        DayNames x = Check.town("r0;" + BY_TURNS);
        nights(x, 60);
        holds(x, 4, 6, 12, 6);
        DayNames skipped = Check.town("b1 1 1 0 0 0 0;");
        nights(skipped, 100);
        Check.due("SKIPPED", skipped.now(1), 99);
        holds(skipped, 4, 1, 1, 1);
        // behind the DAY of NAME 4, NAME 0 comes again; behind that, NAME 4 against nobody
        holds(skipped, 4, 2, 1, 1);
        holds(skipped, 4, 3, 2, 2);
    }

    // ---- ring

    /** Promise 18: "RING of two BIDDERS (unlike) for n (1 .. 20) NIGHTS". One NIGHT, 20, and what is beside. */
    static void oneNightAndTwenty() {
        // 2 is paid against the 1 of the other, and 1 without it, on each NIGHT
        String town = "r0;b9 2 2 0 0 0 0;b9 2 1 0 0 0 0;";
        rings(town, 1, 1);
        rings(town, 19, 19);
        rings(town, 20, 20);
        rings(town, 0, DayNames.NO);
        rings(town, 21, DayNames.NO);
        rings(town, -1, DayNames.NO);
        rings(town, Integer.MIN_VALUE, DayNames.NO);
        rings(town, Integer.MAX_VALUE, DayNames.NO);
    }

    /** Promise 18: "RING. NO: BAD." No such BIDDER, or twice the same one. */
    static void wrongBidders() {
        DayNames x = Check.town("b9 2 2 0 0 0 0;b9 2 1 0 0 0 0;");
        int[][] wrong = {{0, 0}, {1, 1}, {-1, 0}, {0, -1}, {2, 0}, {0, 2}, {2, 2}, {-1, -1},
            {Integer.MIN_VALUE, 0}, {0, Integer.MAX_VALUE}};
        for (int[] w : wrong) Check.due("ring(" + w[0] + ", " + w[1] + ", 1)", x.ring(w[0], w[1], 1), DayNames.NO);
        Check.due("ring(0, 0, 21)", x.ring(0, 0, 21), DayNames.NO);
        DayNames one = Check.town("b9 2 2 0 0 0 0;");
        Check.due("ring(0, 1, 1) of one BIDDER", one.ring(0, 1, 1), DayNames.NO);
        Check.due("ring(0, 0, 1) of one BIDDER", one.ring(0, 0, 1), DayNames.NO);
    }

    /** Promise 18: "the one of them whose bid is lower", "does not bid". By one coin; the others bid on. */
    static void theLowerOne() {
        rings("b9 0 6 0 0 0 0;b9 0 0 5 0 0 0;", 1, 6 - 1);
        rings("b9 0 5 0 0 0 0;b9 0 0 6 0 0 0;", 1, 6 - 1);
        rings("b9 0 6 0 0 0 0;b9 0 0 5 0 0 0;b9 0 0 0 4 0 0;", 1, 6 - 5);
        rings("b9 0 6 0 0 0 0;b9 0 0 5 0 0 0;b9 0 0 0 5 0 0;", 1, 0);
        rings("b9 0 6 0 0 0 0;b9 0 0 5 0 0 0;b9 0 0 0 7 0 0;", 1, 0);
    }

    /** Promise 18: "(who bids for none bids lower; alike: the one of higher number)". One for none, both for none. */
    static void whoBidsForNone() {
        rings("b9 0 0 0 0 0 0;b9 0 3 0 0 0 0;b9 0 0 2 0 0 0;", 1, 0);
        rings("b9 0 3 0 0 0 0;b9 0 0 0 0 0 0;b9 0 0 2 0 0 0;", 1, 0);
        rings("b9 0 0 0 0 0 0;b9 0 0 0 0 0 0;b9 0 0 2 0 0 0;", 20, 0);
        rings("b2 0 3 0 0 0 0;b9 0 3 0 0 0 0;b9 0 0 2 0 0 0;", 1, 0);
    }

    /** Promise 18: "alike: the one of higher number". */
    static void alikeBids() {
        // as it is: 5 (0 of them), then 2 (against the 1 for NAME 2, as NAME 0 is barred)
        // 1 does not bid: 4, then 2; were it 0 that does not, the 3 for NAME 0 would stand on both NIGHTS: 4 and 4
        rings("b9 0 5 0 0 0 0;b9 0 0 5 0 0 0;b9 0 3 0 1 0 0;", 2, 7 - 6);
        rings("b9 0 5 0 0 0 0;b9 0 0 5 0 0 0;b9 0 3 0 1 0 0;", 1, 5 - 4);
    }

    /** Promise 18: "(may be below 0)". It may be BAD's number, which is no refusal. */
    static void aRingThatPaysMore() {
        // as it is: 5, and then too poor; without the other: 3, and 3 again
        rings("b9 0 4 0 0 0 0;b9 0 5 5 0 0 0;b99 0 0 0 2 2 2;", 2, -1);
        rings("b9 0 4 0 0 0 0;b9 0 5 5 0 0 0;b99 0 0 0 3 3 3;", 2, -3);
        rings("b9 0 4 0 0 0 0;b9 0 5 5 0 0 0;b99 0 0 0 3 3 3;", 1, 1);
    }

    /** Promise 18: "how much less both pay together for NAMES than as it is". DEBTS are not paid for NAMES. */
    static void debtsAreNotPaidForNames() {
        rings("b20 0 6 0 0 0 0;b20 0 0 5 0 0 0;o0 1 7 1 0;o1 0 1 1 0;", 1, 5);
    }

    /** Promise 18: "(Nothing is changed; without one's own bid, but where told; NIGHTS to come go on beyond DAY 60". */
    static void ringBeyondTheEnd() {
        DayNames x = Check.town("r0;b9 2 2 0 0 0 0;b9 2 1 0 0 0 0;");
        nights(x, 60);
        x.bids(4, 40);
        Check.due("ring(0, 1, 20)", x.ring(0, 1, 20), 20);
        Check.due("DAYS", x.now(0), 60);
        DayNames skipped = Check.town("b1 1 1 0 0 0 0;b1 1 1 0 0 0 0;");
        nights(skipped, 100);
        Check.due("ring(0, 1, 20)", skipped.ring(0, 1, 20), 0);
    }
}
