import java.util.function.Supplier;

/** What stands after a refused call, and after one that only asks: each thing of two like objects is looked at then. */
public final class RefusedBoundsTest {
    private interface Call {
        long on(DayNames x);
    }

    private static final int[] FAR = {Integer.MIN_VALUE, Integer.MAX_VALUE};

    public static void main(String[] args) {
        Check.runAll(RefusedBoundsTest.class);
    }

    // ---- all that can be seen

    /** Some 140 calls: with what made the object they stay below 512. */
    private static String seen(DayNames x) {
        StringBuilder all = new StringBuilder();
        for (int what = 0; what <= 5; what++) all.append(x.now(what)).append(' ').append(x.count(what)).append(' ');
        all.append(x.trace()).append(" bidders");
        for (int b = 0; b < x.count(0); b++) {
            for (int what = 0; what <= 6; what++) all.append(' ').append(x.bidder(b, what));
        }
        all.append(" debts");
        for (int d = 0; d < x.count(2); d++) {
            for (int what = 0; what <= 5; what++) all.append(' ').append(x.debt(d, what));
        }
        all.append(" days");
        for (int i = Math.max(1, x.now(0) - 9); i <= x.now(0); i++) all.append(' ').append(x.day(i));
        for (int n = 0; n <= 4; n++) all.append(' ').append(x.name(n, 1)).append(' ').append(x.name(n, 2));
        all.append(" found ").append(x.mayBe(0, 0, 0)).append(' ').append(x.mayBe(1, 1, 0));
        all.append(" planned ").append(x.planned(-1)).append(' ').append(x.planned(0)).append(' ').append(x.planned(1));
        return all.append(whatIsDoneNext(x)).toString();
    }

    /** One's OWN bid, the text, what can be undone and the images are seen by what is done with them. */
    private static String whatIsDoneNext(DayNames x) {
        StringBuilder all = new StringBuilder(" then");
        for (int i = 1; i <= 3; i++) all.append(' ').append(x.night()).append(' ').append(x.now(2));
        for (int i = 1; i <= 11; i++) {
            all.append(' ').append(x.undo()).append(' ').append(x.now(0)).append(' ').append(x.now(1));
        }
        all.append(" bid ").append(x.bids(0, 1)).append(" images");
        for (int image = 0; image <= 1; image++) {
            all.append(' ').append(x.back(image)).append(' ').append(x.now(2)).append(' ').append(x.bids(0, 1));
        }
        all.append(" text ").append(x.type(';')).append(' ').append(x.town()).append(' ').append(x.count(5));
        return all.append(' ').append(x.count(0)).append(' ').append(x.count(1)).toString();
    }

    private static DayNames lived() {
        DayNames x = Check.town("r2;b30 2 6 5 4 0 0;b20 1 0 5 0 3 0;o0 1 9 1 0;o1 0 50 1 1;o1 0 3 2 0;");
        x.night();
        x.bids(4, 40);
        x.night();
        x.bids(2, 9);
        x.keep(1);
        x.night();
        x.bids(3, 7);
        x.found(1, 1);
        x.found(2, -1);
        x.plan(0);
        x.plan(-1);
        x.rate(3, 1);
        Check.type(x, "r5;b1 2 3 4 5 6 7;b");
        return x;
    }

    private static DayNames full() {
        DayNames x = lived();
        for (int i = 3; i <= 5; i++) x.found(8, 0);
        for (int i = 3; i <= 8; i++) x.plan(4);
        for (int i = 20; i <= 200; i++) x.type(' ');
        return x;
    }

    private static DayNames sixtyDays() {
        DayNames x = Check.town("r0;b9 1 1 0 0 0 0;b9 0 0 0 0 0 0;o1 0 1 5 4;");
        for (int i = 1; i <= 60; i++) x.night();
        x.keep(0);
        x.bids(3, 40);
        return x;
    }

    private static DayNames ninetyNineSkipped() {
        DayNames x = Check.town("b9 1 1 0 0 0 0;b9 0 0 0 0 0 0;");
        for (int i = 1; i <= 100; i++) x.night();
        x.keep(0);
        x.bids(3, 40);
        return x;
    }

    private static void refused(String call, Supplier<DayNames> made, long answer, Call refused) {
        DayNames x = made.get();
        Check.due(call, refused.on(x), answer);
        Check.same("what stands after " + call, seen(x), seen(made.get()));
    }

    private static void bad(String call, Call refused) {
        refused(call, RefusedBoundsTest::lived, DayNames.BAD, refused);
    }

    // ---- that the looking itself sees

    /** Promise 12: "UNDONE: the latest night(), bids() that was not refused". What is not refused is seen to change. */
    static void whatIsDoneIsSeen() {
        Call[] calls = {x -> x.night(), x -> x.bids(3, 7), x -> x.bids(3, 8), x -> x.undo(), x -> x.type(' '), x -> x.clear(),
            x -> x.found(1, 1), x -> x.found(8, -1), x -> x.forget(), x -> x.plan(-1), x -> x.plan(1), x -> x.unplan(),
            x -> x.keep(0), x -> x.keep(1), x -> x.back(1), x -> x.rate(0, 0)};
        String before = seen(lived());
        for (int i = 0; i < calls.length; i++) {
            DayNames x = lived();
            calls[i].on(x);
            Check.due("whether call " + i + " is seen", seen(x).equals(before) ? 0 : 1, 1);
        }
    }

    // ---- what is refused

    /** Promise 2: "Refused, and nothing changes". A wrong letter; any letter on a full text. */
    static void types() {
        bad("type(-1)", x -> x.type(-1));
        bad("type(256)", x -> x.type(256));
        refused("type(32)", RefusedBoundsTest::full, DayNames.FULL, x -> x.type(32));
        refused("type(256) on a full text", RefusedBoundsTest::full, DayNames.BAD, x -> x.type(256));
    }

    /** Promise 4: "-10 less FAULT: nothing changes (THE TEXT stays, too)." Also of a full text. */
    static void towns() {
        refused("town()", RefusedBoundsTest::lived, -10 - 19, x -> x.town());
        refused("town() of 200 letters", RefusedBoundsTest::full, -10 - 200, x -> x.town());
    }

    /** Promise 5: "Of a BIDDER: 0 PURSE, 1 WAGE, 2 .. 6 WORTH of NAMES 0 .. 4. BAD." */
    static void bidders() {
        bad("bidder(2, 0)", x -> x.bidder(2, 0));
        bad("bidder(0, 7)", x -> x.bidder(0, 7));
    }

    /** Promise 6: "Of a DEBT: 0 WHO, 1 TO WHOM, 2 COINS, 3 k, 4 NAME, 5 how it is (0 not due yet, 1 paid, 2 DEFAULT). BAD." */
    static void debts() {
        bad("debt(3, 0)", x -> x.debt(3, 0));
        bad("debt(0, 6)", x -> x.debt(0, 6));
    }

    /** Promise 7: "The NAME of a DAY (1 first). BAD." */
    static void days() {
        bad("day(0)", x -> x.day(0));
        bad("day(4)", x -> x.day(4));
    }

    /** Promise 8: "Of a NAME: 0 how many DAYS, 1 the latest such DAY (0: none), 2 whether it is BARRED now. BAD." */
    static void names() {
        bad("name(5, 0)", x -> x.name(5, 0));
        bad("name(0, 3)", x -> x.name(0, 3));
    }

    /** Promise 9: "0 DAYS, 1 SKIPPED, 2 SPENT, 3 DEFAULTS, 4 NEVER (bits), 5 how many may be UNDONE. BAD." */
    static void nows() {
        bad("now(-1)", x -> x.now(-1));
        bad("now(6)", x -> x.now(6));
    }

    /** Promise 10: "STATE: it is DAY 60, or 99 were SKIPPED." One's OWN bid, and what may be UNDONE, stay. */
    static void nightsBeyondTheEnd() {
        refused("night()", RefusedBoundsTest::sixtyDays, DayNames.STATE, x -> x.night());
        refused("night()", RefusedBoundsTest::ninetyNineSkipped, DayNames.STATE, x -> x.night());
    }

    /** Promise 11: "One's OWN bid (instead of another one): the NAME it was for till now (NONE). BAD." */
    static void ownBids() {
        bad("bids(-1, 1)", x -> x.bids(-1, 1));
        bad("bids(5, 1)", x -> x.bids(5, 1));
        bad("bids(1, 0)", x -> x.bids(1, 0));
        bad("bids(1, 41)", x -> x.bids(1, 41));
    }

    /** Promise 12: "UNDONE: how many more may be. STATE: none." */
    static void nothingUndone() {
        refused("undo()", () -> {
            DayNames x = lived();
            while (x.now(5) > 0) x.undo();
            return x;
        }, DayNames.STATE, x -> x.undo());
    }

    /** Promise 13: "IN n NIGHTS: the NAME (what = 0; NONE), DAYS (1), DEFAULTS (2). BAD." */
    static void inNights() {
        bad("inNights(-1, 0)", x -> x.inNights(-1, 0));
        bad("inNights(21, 1)", x -> x.inNights(21, 1));
        bad("inNights(20, 3)", x -> x.inNights(20, 3));
    }

    /** Promise 14: "A BIDDER's PURSE IN n NIGHTS. BAD." */
    static void pursesIn() {
        bad("purseIn(2, 20)", x -> x.purseIn(2, 20));
        bad("purseIn(0, 21)", x -> x.purseIn(0, 21));
    }

    /** Promise 15: "FALLS; NONE. BAD." */
    static void falls() {
        bad("falls(-1)", x -> x.falls(-1));
        bad("falls(3)", x -> x.falls(3));
    }

    /** Promise 16: "BUY: the NIGHT (what = 0), what it costs (1); NONE. BAD." */
    static void buys() {
        bad("buy(5, 1, 0)", x -> x.buy(5, 1, 0));
        bad("buy(0, 11, 0)", x -> x.buy(0, 11, 0));
        bad("buy(0, 10, 2)", x -> x.buy(0, 10, 2));
    }

    /** Promise 17: "HOLD: what it costs (what = 0), DAYS (1); NONE. BAD." */
    static void holds() {
        bad("hold(5, 1, 0)", x -> x.hold(5, 1, 0));
        bad("hold(0, 7, 0)", x -> x.hold(0, 7, 0));
        bad("hold(0, 6, 2)", x -> x.hold(0, 6, 2));
    }

    /** Promise 18: "RING. NO: BAD." */
    static void rings() {
        refused("ring(0, 0, 1)", RefusedBoundsTest::lived, DayNames.NO, x -> x.ring(0, 0, 1));
        refused("ring(0, 2, 1)", RefusedBoundsTest::lived, DayNames.NO, x -> x.ring(0, 2, 1));
        refused("ring(0, 1, 21)", RefusedBoundsTest::lived, DayNames.NO, x -> x.ring(0, 1, 21));
    }

    /** Promise 19: "FOUND (name -1: none): how much there is. BAD; FULL." */
    static void founds() {
        bad("found(0, 0)", x -> x.found(0, 0));
        bad("found(9, 0)", x -> x.found(9, 0));
        bad("found(1, 5)", x -> x.found(1, 5));
        refused("found(1, 0)", RefusedBoundsTest::full, DayNames.FULL, x -> x.found(1, 0));
        refused("found(9, 0) with five", RefusedBoundsTest::full, DayNames.BAD, x -> x.found(9, 0));
    }

    /** Promise 21: "MAY BE: how many (what = 0), the least (1; NONE). BAD." */
    static void mayBes() {
        bad("mayBe(2, 0, 0)", x -> x.mayBe(2, 0, 0));
        bad("mayBe(0, 5, 0)", x -> x.mayBe(0, 5, 0));
        bad("mayBe(0, 0, 2)", x -> x.mayBe(0, 0, 2));
    }

    /** Promise 22: "The PLAN gets a NAME (-1: none): how many it has. BAD; FULL." */
    static void plans() {
        bad("plan(-2)", x -> x.plan(-2));
        bad("plan(5)", x -> x.plan(5));
        refused("plan(0)", RefusedBoundsTest::full, DayNames.FULL, x -> x.plan(0));
        refused("plan(5) with eight", RefusedBoundsTest::full, DayNames.BAD, x -> x.plan(5));
    }

    /** Promise 24: "By the PLAN: DEFAULTS more (b = -1), a BIDDER's PURSE. BAD." */
    static void planned() {
        bad("planned(-2)", x -> x.planned(-2));
        bad("planned(2)", x -> x.planned(2));
    }

    /** Promise 25: "ODDS: upper (what = 0), lower number (1), in least terms. BAD." */
    static void odds() {
        bad("odds(3, 0, 0, 0)", x -> x.odds(3, 0, 0, 0));
        bad("odds(0, 11, 0, 0)", x -> x.odds(0, 11, 0, 0));
        bad("odds(0, 10, 7, 0)", x -> x.odds(0, 10, 7, 0));
        bad("odds(0, 10, 6, 2)", x -> x.odds(0, 10, 6, 2));
    }

    /** Promise 26: "RATE. NO: BAD." No body is asked, so that THE TRACE stays. */
    static void rates() {
        refused("rate(-1, 0)", RefusedBoundsTest::lived, DayNames.NO, x -> x.rate(-1, 0));
        refused("rate(6, 0)", RefusedBoundsTest::lived, DayNames.NO, x -> x.rate(6, 0));
        refused("rate(5, 2)", RefusedBoundsTest::lived, DayNames.NO, x -> x.rate(5, 2));
    }

    /** Promise 27: "An IMAGE is kept: DAYS. BAD." */
    static void keeps() {
        bad("keep(-1)", x -> x.keep(-1));
        bad("keep(2)", x -> x.keep(2));
    }

    /** Promise 28: "All of that becomes as an IMAGE has it: DAYS. BAD; STATE: none was kept." What may be UNDONE stays. */
    static void backs() {
        bad("back(-1)", x -> x.back(-1));
        bad("back(2)", x -> x.back(2));
        refused("back(0), none kept", RefusedBoundsTest::lived, DayNames.STATE, x -> x.back(0));
    }

    /** Promise 29: "0 BIDDERS, 1 BAR, 2 DEBTS, 3 FOUND, 4 in the PLAN, 5 letters of THE TEXT. BAD." */
    static void counts() {
        bad("count(-1)", x -> x.count(-1));
        bad("count(6)", x -> x.count(6));
    }

    /** Promise 29: "Refused, and nothing changes, the first of these: BAD (a number is not as told". By far, in each place. */
    static void farOff() {
        Call[][] calls = {
            {x -> x.type(FAR[0]), x -> x.bidder(FAR[0], 0), x -> x.bidder(0, FAR[0]), x -> x.debt(FAR[0], 0),
                x -> x.debt(0, FAR[0]), x -> x.day(FAR[0]), x -> x.name(FAR[0], 0), x -> x.name(0, FAR[0]),
                x -> x.now(FAR[0]), x -> x.bids(FAR[0], 1), x -> x.bids(1, FAR[0]), x -> x.inNights(FAR[0], 0),
                x -> x.purseIn(FAR[0], 1), x -> x.purseIn(0, FAR[0]), x -> x.falls(FAR[0]), x -> x.found(FAR[0], 1),
                x -> x.found(1, FAR[0]), x -> x.plan(FAR[0]), x -> x.planned(FAR[0]), x -> x.keep(FAR[0]),
                x -> x.back(FAR[0]), x -> x.count(FAR[0])},
            {x -> x.type(FAR[1]), x -> x.bidder(FAR[1], 0), x -> x.bidder(0, FAR[1]), x -> x.debt(FAR[1], 0),
                x -> x.debt(0, FAR[1]), x -> x.day(FAR[1]), x -> x.name(FAR[1], 0), x -> x.name(0, FAR[1]),
                x -> x.now(FAR[1]), x -> x.bids(FAR[1], 1), x -> x.bids(1, FAR[1]), x -> x.inNights(FAR[1], 0),
                x -> x.purseIn(FAR[1], 1), x -> x.purseIn(0, FAR[1]), x -> x.falls(FAR[1]), x -> x.found(FAR[1], 1),
                x -> x.found(1, FAR[1]), x -> x.plan(FAR[1]), x -> x.planned(FAR[1]), x -> x.keep(FAR[1]),
                x -> x.back(FAR[1]), x -> x.count(FAR[1])}};
        for (Call[] row : calls) {
            for (int i = 0; i < row.length; i++) bad("call " + i, row[i]);
        }
    }

    // ---- what only asks

    /** Promise 13: "(Nothing is changed; without one's own bid, but where told; NIGHTS to come go on". By no call that asks. */
    static void whatAsksChangesNothing() {
        Call[] calls = {x -> x.inNights(20, 0), x -> x.inNights(20, 2), x -> x.purseIn(1, 20), x -> x.falls(0), x -> x.falls(2),
            x -> x.buy(3, 10, 0), x -> x.buy(3, 10, 1), x -> x.hold(3, 6, 0), x -> x.hold(3, 6, 1), x -> x.ring(0, 1, 20),
            x -> x.mayBe(0, 2, 0), x -> x.mayBe(1, 1, 1), x -> x.planned(-1), x -> x.planned(1), x -> x.odds(2, 3, 6, 0),
            x -> x.odds(2, 3, 6, 1), x -> x.bidder(0, 0), x -> x.debt(0, 5), x -> x.day(1), x -> x.name(0, 2), x -> x.now(4),
            x -> x.count(5), x -> x.trace()};
        String before = seen(lived());
        String beforeTheEnd = seen(sixtyDays());
        for (int i = 0; i < calls.length; i++) {
            DayNames x = lived();
            calls[i].on(x);
            Check.same("what stands after asking " + i, seen(x), before);
            DayNames y = sixtyDays();
            calls[i].on(y);
            Check.same("what stands after asking " + i + " on DAY 60", seen(y), beforeTheEnd);
        }
    }

    /** Promise 27: "IMAGES 0, 1 keep NOW". What is kept changes nothing but the IMAGE. */
    static void keepingChangesNothingElse() {
        DayNames x = lived();
        int[] before = new int[12];
        for (int what = 0; what <= 5; what++) {
            before[what] = x.now(what);
            before[what + 6] = x.count(what);
        }
        x.keep(0);
        for (int what = 0; what <= 5; what++) {
            Check.due("now(" + what + ")", x.now(what), before[what]);
            Check.due("count(" + what + ")", x.count(what), before[what + 6]);
        }
        Check.due("one's OWN bid", x.bids(0, 1), 3);
    }
}
