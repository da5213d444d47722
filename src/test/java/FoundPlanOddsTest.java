/** Promises 19 to 25: what was FOUND, the PLAN, the ODDS. */
public final class FoundPlanOddsTest {
    public static void main(String[] args) {
        found();
        mayBe();
        foundIsFromNow();
        plan();
        planned();
        odds();
        oddsOfWhatIsSure();
        wrongNumbers();
        Check.finish();
    }

    private static void found() {
        DayNames x = new DayNames();
        for (int i = 1; i <= 5; i++) Check.due("found() number " + i, x.found(8, -1), i);
        Check.due("found() number 6", x.found(1, 4), DayNames.FULL);
        Check.due("a wrong found() number 6", x.found(9, 4), DayNames.BAD);
        Check.due("count(3)", x.count(3), 5);
        Check.due("forget()", x.forget(), 5);
        Check.due("count(3) behind forget()", x.count(3), 0);
        Check.due("forget() again", x.forget(), 0);
        Check.due("found(1, 4)", x.found(1, 4), 1);
    }

    private static void may(DayNames x, int b, int name, int many, int least) {
        Check.due("mayBe(" + b + ", " + name + ", 0)", x.mayBe(b, name, 0), many);
        Check.due("mayBe(" + b + ", " + name + ", 1)", x.mayBe(b, name, 1), least);
    }

    private static void mayBe() {
        DayNames x = Check.town(NightTest.TWO);
        may(x, 0, 0, 21, 0);
        x.found(1, 0);
        may(x, 0, 0, 5, 6);
        may(x, 1, 0, 5, 6);
        may(x, 0, 3, 0, DayNames.NONE);
        x.bids(2, 40);
        may(x, 0, 0, 5, 6);
        Check.due("the WORTH stays", x.bidder(0, 2), 5);
        Check.due("nothing is changed", x.now(0), 0);
        x.found(2, 0);
        may(x, 0, 0, 0, DayNames.NONE);
        x.forget();
        x.found(1, 1);
        // against the 5 of bidder 0, who has alike ones; a worth of 4 and less leaves him at 4 for name 0
        may(x, 1, 1, 5, 6);
        x.found(1, -1);
        may(x, 1, 1, 0, DayNames.NONE);
        DayNames none = Check.town("b3 0 0 0 0 0 0;");
        none.found(1, 4);
        may(none, 0, 4, 3, 1);
        none.found(2, -1);
        none.found(8, -1);
        may(none, 0, 4, 3, 1);
        none.found(8, 4);
        may(none, 0, 4, 0, DayNames.NONE);
        none.forget();
        none.found(1, -1);
        may(none, 0, 4, 18, 0);
    }

    private static void foundIsFromNow() {
        DayNames x = Check.town("b9 0 3 2 0 0 0;");
        x.found(1, 0);
        may(x, 0, 4, 15, 0);
        x.night();
        may(x, 0, 0, 0, DayNames.NONE);
        Check.due("FOUND stays", x.count(3), 1);
        x.undo();
        may(x, 0, 4, 15, 0);
    }

    private static void plan() {
        DayNames x = new DayNames();
        for (int i = 1; i <= 8; i++) Check.due("plan() number " + i, x.plan(i % 6 - 1), i);
        Check.due("plan() number 9", x.plan(4), DayNames.FULL);
        Check.due("a wrong plan() number 9", x.plan(5), DayNames.BAD);
        Check.due("count(4)", x.count(4), 8);
        Check.due("unplan()", x.unplan(), 8);
        Check.due("count(4) behind unplan()", x.count(4), 0);
        Check.due("unplan() again", x.unplan(), 0);
        Check.due("plan(-1)", x.plan(-1), 1);
    }

    private static void plans(DayNames x, int defaults, int... purses) {
        Check.due("planned(-1)", x.planned(-1), defaults);
        for (int b = 0; b < purses.length; b++) Check.due("planned(" + b + ")", x.planned(b), purses[b]);
    }

    private static void planned() {
        DayNames x = Check.town(NightTest.TWO);
        plans(x, 0, 10, 10);
        x.plan(1);
        plans(x, 1, 12, 11);
        x.plan(-1);
        plans(x, 1, 12, 11);
        x.plan(1);
        plans(x, 1, 9, 17);
        x.plan(4);
        plans(x, 1, 11, 18);
        Check.due("nothing is changed", x.now(0) + x.now(1) + x.now(3), 0);
        x.bids(3, 40);
        plans(x, 1, 11, 18);
        Check.nights(x, 3, 1);
        // DAY 2 was the first of name 1: the PLAN brings the second and the third
        plans(x, 0, 14 + 2 * 3 - 5, 6 + 1 * 3 + 5);
        x.unplan();
        plans(x, 0, 14, 6);
        x.plan(0);
        plans(x, 0, 16, 7);
        Check.due("planned(0) of a new object", new DayNames().planned(0), DayNames.BAD);
        Check.due("planned(-1) of a new object", new DayNames().planned(-1), 0);
    }

    private static void chances(DayNames x, int d, int p, int n, int upper, int lower) {
        Check.due("odds(" + d + ", " + p + ", " + n + ", 0)", x.odds(d, p, n, 0), upper);
        Check.due("odds(" + d + ", " + p + ", " + n + ", 1)", x.odds(d, p, n, 1), lower);
    }

    private static void odds() {
        DayNames x = Check.town(NightTest.TWO);
        chances(x, 0, 5, 4, 5, 16);
        chances(x, 0, 5, 2, 0, 1);
        chances(x, 0, 5, 3, 1, 8);
        chances(x, 0, 1, 6, 99873, 100000);
        chances(x, 1, 3, 1, 7, 10);
        chances(x, 1, 3, 6, 999271, 1000000);
        chances(x, 1, 9, 2, 19, 100);
        x.bids(4, 40);
        chances(x, 1, 3, 1, 7, 10);
    }

    private static void oddsOfWhatIsSure() {
        DayNames x = Check.town(NightTest.TWO);
        chances(x, 0, 0, 3, 1, 1);
        chances(x, 0, 0, 2, 0, 1);
        chances(x, 0, 10, 6, 0, 1);
        chances(x, 0, 3, 0, 0, 1);
        x.night();
        chances(x, 1, 10, 6, 1, 1);
        chances(x, 1, 4, 0, 1, 1);
        chances(x, 1, 7, 5, 1, 1);
        chances(x, 0, 0, 2, 1, 1);
    }

    private static void bad(String call, int got) {
        Check.due(call, got, DayNames.BAD);
    }

    private static void wrongNumbers() {
        DayNames x = Check.town(NightTest.TWO);
        int[][] founds = {{0, 0}, {9, 0}, {-1, 0}, {1, 5}, {1, -2}};
        for (int[] w : founds) bad("a wrong found()", x.found(w[0], w[1]));
        bad("plan(-2)", x.plan(-2));
        bad("plan(5)", x.plan(5));
        Check.due("refused ones do not count", x.count(3) + x.count(4), 0);
        int[][] mays = {{-1, 0, 0}, {2, 0, 0}, {0, -1, 0}, {0, 5, 0}, {0, 0, -1}, {0, 0, 2}};
        for (int[] w : mays) bad("a wrong mayBe()", x.mayBe(w[0], w[1], w[2]));
        bad("planned(-2)", x.planned(-2));
        bad("planned(2)", x.planned(2));
        int[][] odds = {{-1, 0, 0, 0}, {2, 0, 0, 0}, {0, -1, 0, 0}, {0, 11, 0, 0}, {0, 0, -1, 0}, {0, 0, 7, 0},
                {0, 0, 0, -1}, {0, 0, 0, 2}};
        for (int[] w : odds) bad("a wrong odds()", x.odds(w[0], w[1], w[2], w[3]));
    }
}
