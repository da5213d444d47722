/** The bounds of one's OWN bid and of what is UNDONE: promises 11 and 12. */
public final class OwnUndoBoundsTest {
    private static final String TWO = "b20 0 8 0 0 0 0;b20 0 0 5 0 0 0;";

    public static void main(String[] args) {
        Check.runAll(OwnUndoBoundsTest.class);
    }

    private static void bad(String call, int got) {
        Check.due(call, got, DayNames.BAD);
    }

    // ---- one's own bid

    /** Promise 11: "a NAME, so many coins (1 .. 40), for the next NIGHT alone". The least, the most, and what is beside. */
    static void leastAndMostCoins() {
        DayNames x = new DayNames();
        int[] wrong = {0, 41, -1, Integer.MIN_VALUE, Integer.MAX_VALUE};
        for (int coins : wrong) bad("bids(0, " + coins + ")", x.bids(0, coins));
        Check.due("UNDONE", x.now(5), 0);
        Check.due("bids(3, 1)", x.bids(3, 1), DayNames.NONE);
        Check.due("bids(2, 40)", x.bids(2, 40), 3);
        Check.due("UNDONE", x.now(5), 2);
    }

    /** Promise 11: "One's OWN bid (instead of another one): the NAME it was for till now (NONE). BAD." NAMES 0 and 4. */
    static void theFirstAndTheLastName() {
        DayNames x = new DayNames();
        int[] wrong = {-1, 5, Integer.MIN_VALUE, Integer.MAX_VALUE};
        for (int n : wrong) bad("bids(" + n + ", 1)", x.bids(n, 1));
        Check.due("bids(0, 1)", x.bids(0, 1), DayNames.NONE);
        Check.due("bids(4, 1)", x.bids(4, 1), 0);
        bad("bids(5, 41)", x.bids(5, 41));
        Check.due("bids(4, 2): a refused one is none", x.bids(4, 2), 4);
        Check.due("bids(4, 2): the same", x.bids(4, 2), 4);
    }

    /** Promise 11: "One's OWN bid (instead of another one)". The last one counts alone, be it lower. */
    static void insteadOfAnother() {
        DayNames x = Check.town(TWO);
        x.bids(4, 40);
        x.bids(3, 9);
        x.bids(2, 1);
        Check.nights(x, 0);
        Check.due("SPENT", x.now(2), 0);
        Check.purses(x, 20 - 6, 20);
    }

    /** Promise 11: "The highest bid has it", "of several one's own last". A coin less, as much, a coin more, the most. */
    static void againstTheHighest() {
        int[] coins = {7, 8, 9, 40};
        int[] names = {0, 0, 4, 4};
        int[] spent = {0, 0, 9, 9};
        int[] purses = {20 - 8, 20 - 8, 20, 20};
        for (int i = 0; i < coins.length; i++) {
            DayNames x = Check.town(TWO);
            x.bids(4, coins[i]);
            Check.nights(x, names[i]);
            Check.due("SPENT of " + coins[i], x.now(2), spent[i]);
            Check.purses(x, purses[i], 20);
        }
    }

    /** Promise 11: "One's own bid, if there is one, is a bid more". A lost one makes the winner pay 1 more than it. */
    static void aLostBidRaisesThePrice() {
        DayNames x = Check.town(TWO);
        x.bids(4, 6);
        Check.nights(x, 0);
        Check.purses(x, 20 - 7, 20);
        DayNames less = Check.town(TWO);
        less.bids(4, 5);
        Check.nights(less, 0);
        Check.purses(less, 20 - 6, 20);
        DayNames alone = Check.town("b20 0 8 0 0 0 0;");
        alone.bids(0, 1);
        Check.nights(alone, 0);
        Check.purses(alone, 20 - 2);
    }

    /** Promise 11: "(1, if there is none)". One's OWN bid against nobody. */
    static void ownBidAgainstNobody() {
        DayNames x = new DayNames();
        x.bids(4, 40);
        Check.nights(x, 4);
        Check.due("SPENT", x.now(2), 1);
        x.bids(3, 1);
        Check.nights(x, 3);
        Check.due("SPENT", x.now(2), 2);
    }

    /** Promise 11: "what is paid for it is SPENT". Summed up over 60 DAYS, and no PURSE has less for it. */
    static void spentInAll() {
        DayNames x = Check.town("b20 0 20 0 0 0 0;r0;");
        for (int i = 1; i <= 60; i++) {
            x.bids(4, 40);
            Check.due("night " + i, x.night(), 4);
        }
        Check.due("SPENT", x.now(2), 60 * 21);
        Check.purses(x, 20);
    }

    /** Promise 11: "for the next NIGHT alone". On the NIGHT behind it there is none. */
    static void forTheNextNightAlone() {
        DayNames x = Check.town(TWO + "r0;");
        x.bids(4, 40);
        Check.nights(x, 4, 0);
        Check.due("SPENT", x.now(2), 9);
        Check.due("bids(1, 1)", x.bids(1, 1), DayNames.NONE);
        Check.nights(x, 0);
        Check.due("bids(1, 1) behind a lost one", x.bids(1, 1), DayNames.NONE);
    }

    /** Promise 11: "(also if it is SKIPPED; a barred NAME is no bid)". It is taken, brings nothing, and is gone then. */
    static void aBarredNameAlone() {
        DayNames x = new DayNames();
        x.bids(4, 1);
        Check.nights(x, 4);
        Check.due("bids(4, 40)", x.bids(4, 40), DayNames.NONE);
        Check.nights(x, -5);
        Check.due("SKIPPED", x.now(1), 1);
        Check.due("SPENT", x.now(2), 1);
        Check.due("bids(4, 40) behind it", x.bids(4, 40), DayNames.NONE);
        x.bids(3, 40);
        Check.nights(x, 3);
    }

    /** Promise 11: "a barred NAME is no bid". It is not the next highest one, either. */
    static void aBarredNameRaisesNoPrice() {
        DayNames x = Check.town("b20 0 8 8 0 0 0;b20 0 0 0 5 5 0;");
        Check.nights(x, 0);
        Check.purses(x, 14, 20);
        x.bids(0, 7);
        Check.nights(x, 1);
        Check.purses(x, 8, 20);
    }

    /** Promise 11: "no NAME of any of the latest so many DAYS may be sold again". One's OWN on the last barred DAY, behind. */
    static void theLastBarredNight() {
        DayNames x = Check.town("r3;");
        int[] names = {0, 1, 2};
        for (int name : names) {
            x.bids(name, 1);
            Check.nights(x, name);
        }
        x.bids(0, 1);
        Check.nights(x, -5);
        x.bids(3, 1);
        Check.nights(x, 3);
        x.bids(1, 1);
        Check.nights(x, -5);
        x.bids(0, 1);
        Check.nights(x, 0);
    }

    /** Promise 11: "One's own bid, if there is one, is a bid more". A DAY by it is a DAY: WAGES, DEBTS, BARS. */
    static void aDayByOnesOwnBid() {
        DayNames x = Check.town("b0 9 0 0 0 0 0;b0 1 0 0 0 0 0;o0 1 9 1 2;");
        x.bids(2, 1);
        Check.nights(x, 2);
        Check.purses(x, 0, 10);
        Check.due("how the DEBT is", x.debt(0, 5), 1);
        Check.due("BARRED", x.name(2, 2), 1);
        Check.due("DAYS", x.name(2, 0), 1);
    }

    /** Promise 11: "One's OWN bid (instead of another one): the NAME it was for till now (NONE). BAD." On DAY 60 it is taken. */
    static void onDaySixty() {
        DayNames x = Check.town("b99 0 1 0 0 0 0;r0;");
        for (int i = 1; i <= 60; i++) x.night();
        Check.due("bids(4, 1)", x.bids(4, 1), DayNames.NONE);
        Check.due("bids(3, 1)", x.bids(3, 1), 4);
        Check.due("undo()", x.undo(), 9);
        Check.due("bids(2, 1)", x.bids(2, 1), 4);
    }

    // ---- undone

    /** Promise 12: "UNDONE: how many more may be. STATE: none." Nothing was done yet. */
    static void nothingToBeUndone() {
        DayNames x = Check.town(TWO);
        Check.due("undo()", x.undo(), DayNames.STATE);
        Check.due("now(5)", x.now(5), 0);
        x.night();
        Check.due("undo()", x.undo(), 0);
        Check.due("undo() again", x.undo(), DayNames.STATE);
        Check.due("DAYS", x.now(0), 0);
        Check.due("now(5)", x.now(5), 0);
    }

    /** Promise 12: "(10 are known, older ones are lost)". Ten are all there; of eleven the first is lost. */
    static void tenAreKnown() {
        DayNames ten = Check.town("b9 1 1 1 0 0 0;");
        for (int i = 1; i <= 10; i++) {
            ten.night();
            Check.due("now(5) behind " + i, ten.now(5), i);
        }
        for (int i = 9; i >= 0; i--) Check.due("undo()", ten.undo(), i);
        Check.due("undo()", ten.undo(), DayNames.STATE);
        Check.due("DAYS", ten.now(0), 0);
        DayNames eleven = Check.town("b9 1 1 1 0 0 0;");
        for (int i = 1; i <= 11; i++) eleven.night();
        Check.due("now(5)", eleven.now(5), 10);
        for (int i = 9; i >= 0; i--) Check.due("undo()", eleven.undo(), i);
        Check.due("undo()", eleven.undo(), DayNames.STATE);
        Check.days(eleven, 0);
    }

    /** Promise 12: "the latest night(), bids() that was not refused (10 are known". Both count alike, ten of them in all. */
    static void tenOfBoth() {
        DayNames x = Check.town("b9 1 1 1 0 0 0;");
        for (int i = 1; i <= 6; i++) {
            x.bids(4, 1);
            x.night();
        }
        Check.due("now(5)", x.now(5), 10);
        for (int i = 9; i >= 0; i--) Check.due("undo()", x.undo(), i);
        Check.due("DAYS", x.now(0), 1);
        Check.due("undo()", x.undo(), DayNames.STATE);
    }

    /** Promise 12: "10 are known, older ones are lost". Going round more than once, with some undone between. */
    static void roundAndRound() {
        DayNames x = Check.town("b9 1 1 1 0 0 0;");
        int[] does = {7, 8, 3, 10, 9};
        int[] undoes = {3, 2, 5, 10, 4};
        int[] known = {7, 10, 10, 10, 9};
        int days = 0;
        for (int turn = 0; turn < does.length; turn++) {
            for (int i = 0; i < does[turn]; i++) Check.due("night()", x.night(), days++ % 2);
            Check.due("now(5) of turn " + turn, x.now(5), known[turn]);
            for (int i = 1; i <= undoes[turn]; i++) Check.due("undo()", x.undo(), known[turn] - i);
            days -= undoes[turn];
            Check.due("DAYS of turn " + turn, x.now(0), days);
        }
        Check.due("now(5)", x.now(5), 5);
        for (int i = 4; i >= 0; i--) Check.due("undo()", x.undo(), i);
        Check.due("undo()", x.undo(), DayNames.STATE);
        Check.due("DAYS", x.now(0), days - 5);
    }

    /** Promise 12: "that was not refused". Refused bids(), night() are not what is UNDONE. */
    static void refusedOnesAreNotUndone() {
        DayNames x = new DayNames();
        for (int i = 1; i <= 99; i++) x.night();
        x.undo();
        x.undo();
        x.bids(4, 2);
        x.night();
        x.night();
        Check.due("night()", x.night(), -5);
        Check.due("night()", x.night(), DayNames.STATE);
        bad("bids(5, 1)", x.bids(5, 1));
        bad("bids(0, 0)", x.bids(0, 0));
        Check.due("now(5)", x.now(5), 10);
        Check.due("SKIPPED", x.now(1), 99);
        Check.due("undo()", x.undo(), 9);
        Check.due("SKIPPED", x.now(1), 98);
        Check.due("undo()", x.undo(), 8);
        Check.due("undo()", x.undo(), 7);
        Check.due("DAYS", x.now(0), 0);
        Check.due("undo()", x.undo(), 6);
        Check.due("one's OWN bid is none", x.bids(0, 1), DayNames.NONE);
    }

    /** Promise 12: "the latest night(), bids() that was not refused". Of bids(), the bid ahead of it is there again. */
    static void bidsUndone() {
        DayNames x = Check.town(TWO);
        x.bids(4, 9);
        x.bids(3, 40);
        Check.due("undo()", x.undo(), 1);
        Check.nights(x, 4);
        Check.due("SPENT", x.now(2), 9);
        Check.due("undo()", x.undo(), 1);
        Check.due("undo()", x.undo(), 0);
        Check.nights(x, 0);
        Check.due("SPENT", x.now(2), 0);
    }

    /** Promise 12: "the latest night(), bids() that was not refused". The coins of the bid ahead of it are there again. */
    static void coinsUndone() {
        DayNames x = Check.town(TWO);
        x.bids(4, 5);
        x.bids(4, 40);
        x.undo();
        Check.nights(x, 0);
        x.undo();
        x.bids(3, 9);
        Check.nights(x, 3);
        x.undo();
        x.undo();
        Check.nights(x, 0);
        Check.due("SPENT", x.now(2), 0);
    }

    /** Promise 12: "the latest night(), bids() that was not refused". Of a NIGHT, all is as ahead of it: the bid, too. */
    static void aNightUndone() {
        DayNames x = Check.town("b9 4 0 0 0 0 0;b9 0 0 0 0 0 0;o0 1 13 1 3;o1 0 50 1 3;");
        x.bids(3, 7);
        Check.nights(x, 3);
        Check.purses(x, 0, 22);
        Check.due("undo()", x.undo(), 1);
        Check.purses(x, 9, 9);
        int[] now = {0, 0, 0, 0, 3, 1};
        for (int what = 0; what <= 5; what++) Check.due("now(" + what + ")", x.now(what), now[what]);
        Check.due("debt(0, 5)", x.debt(0, 5), 0);
        Check.due("debt(1, 5)", x.debt(1, 5), 0);
        Check.due("name(3, 0)", x.name(3, 0), 0);
        Check.due("name(3, 1)", x.name(3, 1), 0);
        Check.due("name(3, 2)", x.name(3, 2), 0);
        Check.due("one's OWN bid", x.bids(2, 1), 3);
    }

    /** Promise 12: "UNDONE: the latest night(), bids() that was not refused". A SKIPPED NIGHT, and the bid it took. */
    static void aSkippedNightUndone() {
        DayNames x = new DayNames();
        x.bids(4, 1);
        Check.nights(x, 4);
        x.bids(4, 1);
        Check.nights(x, -5);
        Check.due("SKIPPED", x.now(1), 1);
        Check.due("undo()", x.undo(), 3);
        Check.due("SKIPPED", x.now(1), 0);
        Check.due("one's OWN bid", x.bids(0, 1), 4);
    }

    /** Promise 12: "UNDONE: the latest night(), bids() that was not refused". Nothing else is: no FOUND, no PLAN, no letter. */
    static void whatIsNotUndone() {
        DayNames x = Check.town(TWO);
        x.found(1, 0);
        x.night();
        x.found(2, 0);
        x.plan(1);
        x.type('b');
        x.keep(1);
        x.rate(0, 0);
        Check.due("now(5)", x.now(5), 1);
        Check.due("undo()", x.undo(), 0);
        Check.due("FOUND", x.count(3), 2);
        Check.due("PLAN", x.count(4), 1);
        Check.due("letters", x.count(5), 1);
        Check.due("THE TRACE", x.trace(), 1);
        Check.due("back(1)", x.back(1), 1);
    }

    /** Promise 12: "nothing can be UNDONE behind back()". Only what is done behind it. */
    static void nothingBehindBack() {
        DayNames x = Check.town(TWO);
        x.keep(0);
        for (int i = 1; i <= 10; i++) x.bids(4, i);
        Check.due("now(5)", x.now(5), 10);
        x.back(0);
        Check.due("now(5) behind back()", x.now(5), 0);
        Check.due("undo()", x.undo(), DayNames.STATE);
        x.night();
        Check.due("now(5)", x.now(5), 1);
        Check.due("undo()", x.undo(), 0);
        Check.due("undo()", x.undo(), DayNames.STATE);
    }
}
