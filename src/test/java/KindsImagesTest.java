/** Promises 26 to 30: RATES and THE TRACE, IMAGES, what is counted. */
public final class KindsImagesTest {
    public static void main(String[] args) {
        rates();
        theTrace();
        images();
        imagesKeepNothingElse();
        imagesOfOtherDays();
        counts();
        wrongNumbers();
        Check.finish();
    }

    private static void rated(DayNames x, int b, int... rates) {
        for (int kind = 0; kind < rates.length; kind++) {
            Check.due("rate(" + kind + ", " + b + ")", x.rate(kind, b), rates[kind]);
        }
    }

    private static void rates() {
        DayNames x = Check.town(NightTest.TWO);
        rated(x, 0, 10, 12, 5, 24, 5, 10);
        rated(x, 1, 10, 11, -40, 22, -39, 10);
        x.night();
        rated(x, 0, 12, 14, 7, 28, 7, 13);
        rated(x, 1, 5, 6, 5, 12, 6, 6);
        Check.nights(x, 0, 1);
        rated(x, 0, 6, 8, 6, 16, 6, 9);
        rated(x, 1, 8, 9, 8, 18, 9, 11);
        DayNames owes = Check.town("b9 0 0 0 0 0 0;b0 0 0 0 0 0 0;o0 1 3 1 1;o0 1 4 2 1;o1 0 5 1 1;");
        Check.due("LOVER: all he owes", owes.rate(2, 0), 2);
    }

    private static void theTrace() {
        int[] marks = {1, 11, 101, 1011, 10101, 100001};
        DayNames x = Check.town(NightTest.TWO);
        long sum = 0;
        for (int kind = 0; kind < marks.length; kind++) {
            x.rate(kind, 1);
            sum += marks[kind];
            Check.due("trace() behind rate(" + kind + ", 1)", x.trace(), sum);
        }
        x.rate(6, 0);
        x.rate(-1, 0);
        x.rate(3, 2);
        x.rate(3, -1);
        Check.due("trace() behind refused ones", x.trace(), sum);
        x.keep(0);
        x.night();
        x.rate(0, 0);
        x.undo();
        Check.due("trace() behind undo()", x.trace(), sum + 1);
        x.back(0);
        Check.due("trace() behind back()", x.trace(), sum + 1);
        x.town();
        Check.due("trace() behind town()", x.trace(), sum + 1);
    }

    private static void images() {
        DayNames x = Check.town(NightTest.TWO);
        Check.due("back(0), none kept", x.back(0), DayNames.STATE);
        x.bids(4, 8);
        Check.due("keep(0)", x.keep(0), 0);
        Check.nights(x, 4, 1);
        Check.due("keep(1)", x.keep(1), 2);
        Check.due("keep() is nothing to be UNDONE", x.now(5), 3);
        Check.nights(x, 0, 1);
        Check.due("back(0)", x.back(0), 0);
        int[] now = {0, 0, 0, 0, 0, 0};
        for (int what = 0; what < 6; what++) Check.due("now(" + what + ") behind back(0)", x.now(what), now[what]);
        Check.due("PURSE behind back(0)", x.bidder(0, 0), 10);
        Check.due("how a DEBT is behind back(0)", x.debt(1, 5), 0);
        Check.due("undo() behind back(0)", x.undo(), DayNames.STATE);
        Check.due("one's OWN bid behind back(0)", x.bids(4, 8), 4);
        Check.due("UNDONE behind back(0)", x.undo(), 0);
        Check.due("back(1)", x.back(1), 2);
        Check.days(x, 4, 1);
        Check.due("SPENT behind back(1)", x.now(2), 7);
        Check.due("DEFAULTS behind back(1)", x.now(3), 1);
        Check.due("a DEFAULT behind back(1)", x.debt(1, 5), 2);
        Check.due("PURSE behind back(1)", x.bidder(1, 0), 6);
        Check.due("no OWN bid behind back(1)", x.bids(0, 1), DayNames.NONE);
        Check.due("keep(0) again", x.keep(0), 2);
        Check.due("back(0)", x.back(0), 2);
        Check.due("one's OWN bid of the later image", x.bids(0, 1), 0);
        DayNames skip = new DayNames();
        skip.night();
        skip.keep(0);
        skip.night();
        skip.back(0);
        Check.due("SKIPPED behind back(0)", skip.now(1), 1);
    }

    private static void imagesKeepNothingElse() {
        DayNames x = Check.town(NightTest.TWO);
        x.found(1, 1);
        x.plan(1);
        x.keep(0);
        x.found(2, 1);
        x.plan(2);
        Check.type(x, "abc");
        x.rate(0, 0);
        x.back(0);
        Check.due("FOUND behind back(0)", x.count(3), 2);
        Check.due("PLAN behind back(0)", x.count(4), 2);
        Check.due("letters behind back(0)", x.count(5), 3);
        Check.due("trace() behind back(0)", x.trace(), 1);
    }

    private static void imagesOfOtherDays() {
        DayNames x = Check.town("b9 1 1 1 0 0 0;");
        Check.nights(x, 0, 1, 0);
        x.keep(1);
        x.undo();
        x.undo();
        x.bids(4, 9);
        Check.nights(x, 4, 0, 1, 0);
        Check.days(x, 0, 4, 0, 1, 0);
        x.back(1);
        Check.days(x, 0, 1, 0);
        x.bids(3, 9);
        Check.nights(x, 3);
        Check.due("back(1) again", x.back(1), 3);
        Check.days(x, 0, 1, 0);
    }

    private static void counts() {
        DayNames x = Check.town(NightTest.TWO + "b0 0 0 0 0 0 0;r5;");
        x.found(1, 1);
        x.plan(1);
        x.plan(-1);
        Check.type(x, "b 1 ");
        int[] counts = {3, 5, 2, 1, 2, 4};
        for (int what = 0; what < 6; what++) Check.due("count(" + what + ")", x.count(what), counts[what]);
    }

    private static void wrongNumbers() {
        DayNames x = Check.town(NightTest.TWO);
        int[][] rates = {{-1, 0}, {6, 0}, {0, -1}, {0, 2}};
        for (int[] w : rates) Check.due("a wrong rate()", x.rate(w[0], w[1]), DayNames.NO);
        Check.due("rate(0, 0) of a new object", new DayNames().rate(0, 0), DayNames.NO);
        int[] wrong = {-1, 2, Integer.MIN_VALUE, Integer.MAX_VALUE};
        for (int w : wrong) {
            Check.due("keep(" + w + ")", x.keep(w), DayNames.BAD);
            Check.due("back(" + w + ")", x.back(w), DayNames.BAD);
        }
        Check.due("a wrong keep() keeps none", x.back(1), DayNames.STATE);
    }
}
