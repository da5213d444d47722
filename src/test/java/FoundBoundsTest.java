/** The bounds of what was FOUND and of MAY BE: promises 19, 20 and 21. */
public final class FoundBoundsTest {
    private static final String NOBODY = "b0 0 0 0 0 0 0;";

    public static void main(String[] args) {
        Check.runAll(FoundBoundsTest.class);
    }

    private static void may(DayNames x, int b, int name, int many, int least) {
        Check.due("mayBe(" + b + ", " + name + ", 0)", x.mayBe(b, name, 0), many);
        Check.due("mayBe(" + b + ", " + name + ", 1)", x.mayBe(b, name, 1), least);
    }

    // ---- found

    /** Promise 19: "FOUND (5 at most)": "how much there is. BAD; FULL." The fifth, the sixth. */
    static void theFifth() {
        DayNames x = new DayNames();
        for (int i = 1; i <= 5; i++) Check.due("found() number " + i, x.found(i, 0), i);
        Check.due("found() number 6", x.found(1, 0), DayNames.FULL);
        Check.due("found() number 6, as one there is", x.found(5, 0), DayNames.FULL);
        Check.due("count(3)", x.count(3), 5);
    }

    /** Promise 19: "the first of these: BAD (a number is not as told, or there is no such thing), STATE (as told), FULL." */
    static void aWrongSixth() {
        DayNames x = new DayNames();
        for (int i = 1; i <= 5; i++) x.found(1, -1);
        int[][] wrong = {{0, 0}, {9, 0}, {1, -2}, {1, 5}, {9, 5}};
        for (int[] w : wrong) Check.due("found(" + w[0] + ", " + w[1] + ")", x.found(w[0], w[1]), DayNames.BAD);
        Check.due("found(8, 4)", x.found(8, 4), DayNames.FULL);
    }

    /** Promise 19: "the i-th NIGHT to come (1 .. 8) brings a NAME, or none (-1)." The least, the most, what is beside. */
    static void leastAndMostFound() {
        DayNames x = new DayNames();
        int[][] wrong = {{0, 0}, {9, 0}, {-1, 0}, {1, -2}, {1, 5}, {Integer.MIN_VALUE, 0}, {Integer.MAX_VALUE, 0},
            {1, Integer.MIN_VALUE}, {1, Integer.MAX_VALUE}, {1, DayNames.NONE}, {1, -5}};
        for (int[] w : wrong) Check.due("found(" + w[0] + ", " + w[1] + ")", x.found(w[0], w[1]), DayNames.BAD);
        Check.due("count(3)", x.count(3), 0);
        Check.due("found(1, -1)", x.found(1, -1), 1);
        Check.due("found(8, 4)", x.found(8, 4), 2);
        Check.due("found(1, 0)", x.found(1, 0), 3);
        Check.due("found(8, -1)", x.found(8, -1), 4);
    }

    /** Promise 19: "Refused, and nothing changes". What was refused for it was full, or bad, does not count. */
    static void refusedIsNotFound() {
        DayNames x = Check.town("b9 0 1 0 0 0 0;");
        x.found(0, 4);
        x.found(9, 4);
        x.found(1, 5);
        may(x, 0, 4, 21, 0);
        for (int i = 1; i <= 5; i++) x.found(1, 0);
        Check.due("found(1, 4)", x.found(1, 4), DayNames.FULL);
        may(x, 0, 4, 13, 0);
    }

    /** Promise 20: "Nothing was FOUND: how much there was." None, one, all; anew behind it. */
    static void forgetNoneOneAll() {
        DayNames x = Check.town("b9 0 1 0 0 0 0;");
        Check.due("forget()", x.forget(), 0);
        x.found(1, 4);
        may(x, 0, 0, 0, DayNames.NONE);
        Check.due("forget()", x.forget(), 1);
        may(x, 0, 0, 21, 0);
        for (int i = 1; i <= 5; i++) x.found(1, 4);
        Check.due("forget()", x.forget(), 5);
        Check.due("forget()", x.forget(), 0);
        may(x, 0, 0, 21, 0);
        Check.due("found(8, -1)", x.found(8, -1), 1);
    }

    // ---- may be

    /** Promise 21: "MAY BE of a BIDDER, a NAME: WORTHS (0 .. 20)". With nothing FOUND, all of them: 21, the least is 0. */
    static void nothingFound() {
        DayNames x = Check.town("b9 0 1 0 0 0 0;" + NOBODY);
        for (int name = 0; name <= 4; name++) {
            may(x, 0, name, 21, 0);
            may(x, 1, name, 21, 0);
        }
    }

    /** Promise 21: "MAY BE: how many (what = 0), the least (1; NONE). BAD." One below and one above of each number. */
    static void wrongNumbersOfMayBe() {
        DayNames x = Check.town("b9 0 1 0 0 0 0;" + NOBODY);
        int[][] wrong = {{-1, 0, 0}, {2, 0, 0}, {0, -1, 0}, {0, 5, 0}, {0, 0, -1}, {0, 0, 2}, {2, 5, 2},
            {Integer.MIN_VALUE, 0, 0}, {Integer.MAX_VALUE, 0, 0}, {0, Integer.MIN_VALUE, 0}, {0, Integer.MAX_VALUE, 0},
            {0, 0, Integer.MIN_VALUE}, {0, 0, Integer.MAX_VALUE}};
        for (int[] w : wrong) {
            Check.due("mayBe(" + w[0] + ", " + w[1] + ", " + w[2] + ")", x.mayBe(w[0], w[1], w[2]), DayNames.BAD);
        }
        Check.due("bidder(0, 2)", x.bidder(0, 2), 1);
    }

    /** Promise 21: "WORTHS (0 .. 20)". The last one alone fits, the first one alone, none. */
    static void theFirstAndTheLastWorth() {
        DayNames last = Check.town("b99 0 19 0 0 0 0;b99 0 0 0 0 0 0;");
        last.found(1, 1);
        may(last, 1, 1, 1, 20);
        DayNames none = Check.town("b99 0 20 0 0 0 0;b99 0 0 0 0 0 0;");
        none.found(1, 1);
        may(none, 1, 1, 0, DayNames.NONE);
        may(none, 1, 4, 0, DayNames.NONE);
        DayNames first = Check.town("b99 0 0 0 0 0 5;");
        first.found(1, -1);
        may(first, 0, 4, 1, 0);
        DayNames all = Check.town("b99 0 20 0 0 0 0;b99 0 0 0 0 0 0;");
        all.found(1, 0);
        may(all, 1, 4, 21, 0);
    }

    /** Promise 21: "no more than his PURSE". A WORTH of all he has, and one more: that brings none. */
    static void asMuchAsHisPurse() {
        DayNames x = Check.town("b7 0 0 0 0 0 0;");
        x.found(1, 3);
        may(x, 0, 3, 7, 1);
        x.forget();
        x.found(1, -1);
        may(x, 0, 3, 14, 0);
        DayNames poor = Check.town(NOBODY);
        poor.found(1, 3);
        may(poor, 0, 3, 0, DayNames.NONE);
    }

    /** Promise 21: "by which all that was FOUND would be so". NIGHT 8 counts, and NIGHT 1; NIGHT 9 does not. */
    static void theEighthNight() {
        // his coins go to nothing by 1 a NIGHT: on NIGHT n he has 9 less n, and bids for NAME 0 what it is worth
        DayNames x = Check.town("r0;b8 0 1 0 0 0 0;");
        x.found(8, 0);
        may(x, 0, 0, 1, 1);
        x.forget();
        x.found(8, -1);
        may(x, 0, 0, 20, 0);
        x.forget();
        x.found(7, 0);
        may(x, 0, 0, 2, 1);
        x.forget();
        x.found(1, 0);
        may(x, 0, 0, 8, 1);
    }

    /** Promise 21: "all that was FOUND". Five that agree leave what one leaves; the fifth that does not leaves none. */
    static void allFive() {
        DayNames x = Check.town("r0;b8 0 1 0 0 0 0;");
        for (int i = 1; i <= 4; i++) x.found(i, 0);
        may(x, 0, 0, 5, 1);
        x.found(5, 0);
        may(x, 0, 0, 4, 1);
        x.forget();
        for (int i = 1; i <= 4; i++) x.found(i, 0);
        x.found(1, -1);
        may(x, 0, 0, 0, DayNames.NONE);
    }

    /** Promise 21: "all else as it is". His other WORTHS stand against it, and with alike ones the lowest NAME. */
    static void hisOtherWorths() {
        DayNames x = Check.town("b99 0 0 5 0 0 0;");
        x.found(1, 0);
        may(x, 0, 0, 16, 5);
        x.forget();
        x.found(1, 2);
        may(x, 0, 2, 15, 6);
        x.forget();
        x.found(1, 1);
        may(x, 0, 0, 5, 0);
        may(x, 0, 2, 6, 0);
        may(x, 0, 1, 20, 1);
        for (int what = 2; what <= 6; what++) Check.due("bidder(0, " + what + ")", x.bidder(0, what), what == 3 ? 5 : 0);
    }

    /** Promise 21: "all else as it is". BARS, too: of a barred NAME no WORTH makes it come. */
    static void aBarredNameMayNotBe() {
        DayNames x = Check.town("b9 0 0 0 0 0 0;");
        x.bids(3, 1);
        Check.nights(x, 3);
        x.found(1, 3);
        may(x, 0, 3, 0, DayNames.NONE);
        x.forget();
        x.found(1, -1);
        may(x, 0, 3, 21, 0);
    }

    /** Promise 21: "(Nothing is changed; without one's own bid, but where told". It would have had the first NIGHT. */
    static void mayBeWithoutOnesOwnBid() {
        DayNames x = Check.town("b9 0 0 0 0 0 0;");
        x.bids(4, 40);
        x.found(1, 3);
        may(x, 0, 3, 9, 1);
        Check.nights(x, 4);
    }

    /** Promise 21: "NIGHTS to come go on beyond DAY 60, beyond 99 SKIPPED." */
    static void mayBeBeyondTheEnd() {
        DayNames x = Check.town("r0;b99 2 1 0 0 0 0;");
        for (int i = 1; i <= 60; i++) x.night();
        x.found(8, 4);
        may(x, 0, 4, 19, 2);
        DayNames skipped = Check.town("b1 1 1 0 0 0 0;");
        for (int i = 1; i <= 100; i++) skipped.night();
        Check.due("SKIPPED", skipped.now(1), 99);
        skipped.found(1, 1);
        may(skipped, 0, 1, 1, 1);
        skipped.found(8, 0);
        may(skipped, 0, 1, 1, 1);
    }

    /** Promise 21: "the i-th NIGHT to come (1 .. 8)". It is counted from now: what is now is told by now(0). */
    static void fromNowOn() {
        DayNames x = Check.town("b9 0 2 1 0 0 0;");
        x.found(1, 0);
        may(x, 0, 4, 14, 0);
        x.night();
        may(x, 0, 4, 0, DayNames.NONE);
    }
}
