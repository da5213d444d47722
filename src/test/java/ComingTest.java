/** Promises 13 to 18: what comes, and what can be bought. */
public final class ComingTest {
    public static void main(String[] args) {
        inNights();
        falls();
        ownBidDoesNotCount();
        buy();
        hold();
        ring();
        ringOfAlike();
        wrongNumbers();
        Check.finish();
    }

    private static void inNights() {
        DayNames x = Check.town(NightTest.TWO);
        int[] names = {-9, 1, 0, 1, 0, 1};
        int[][] purses = {{10, 10}, {12, 5}, {9, 6}, {6, 8}, {3, 9}, {5, 6}};
        for (int n = 0; n <= 5; n++) {
            Check.due("inNights(" + n + ", 0)", x.inNights(n, 0), names[n]);
            Check.due("inNights(" + n + ", 1)", x.inNights(n, 1), n);
            Check.due("inNights(" + n + ", 2)", x.inNights(n, 2), n == 0 ? 0 : 1);
            for (int b = 0; b < 2; b++) {
                Check.due("purseIn(" + b + ", " + n + ")", x.purseIn(b, n), purses[n][b]);
            }
        }
        Check.due("nothing is changed", x.now(0) + x.now(3) + x.now(5), 0);
        x.night();
        Check.due("inNights(0, 0)", x.inNights(0, 0), 1);
        Check.due("inNights(4, 0)", x.inNights(4, 0), 1);
        Check.due("purseIn(1, 4)", x.purseIn(1, 4), 6);
        DayNames none = new DayNames();
        Check.due("no DAY in 20 NIGHTS", none.inNights(20, 0), DayNames.NONE);
        Check.due("no DAYS in 20 NIGHTS", none.inNights(20, 1), 0);
        DayNames one = Check.town("b9 1 0 0 0 1 0;r7;");
        Check.due("the NAME of the latest DAY, behind SKIPPED ones", one.inNights(5, 0), 3);
        Check.due("DAYS, behind SKIPPED ones", one.inNights(5, 1), 1);
    }

    private static void falls() {
        DayNames x = Check.town(NightTest.TWO);
        Check.due("falls(0)", x.falls(0), 3);
        Check.due("falls(1)", x.falls(1), 1);
        x.night();
        Check.due("falls(0) a night on", x.falls(0), 2);
        Check.due("falls(1): it was", x.falls(1), 0);
        DayNames never = Check.town("b9 9 5 0 0 0 0;b0 0 0 0 0 0 0;o0 1 1 2 0;o0 1 1 1 0;");
        Check.due("falls(0) of what is SKIPPED for ever", never.falls(0), DayNames.NONE);
        Check.due("falls(1) tonight", never.falls(1), 1);
        // bidder 1 has his 20 coins on DAY 25, pays a DEBT on DAY 26 (the first of name 4), and must save up anew
        DayNames late = Check.town(slow(12));
        Check.due("falls(2) in 40 NIGHTS", late.falls(2), 40);
        Check.due("falls(1) in 26 NIGHTS", late.falls(1), 26);
        DayNames later = Check.town(slow(13));
        Check.due("falls(2) in 41 NIGHTS", later.falls(2), DayNames.NONE);
        Check.nights(later, 0);
        Check.due("falls(2) in 40 NIGHTS, a night on", later.falls(2), 40);
    }

    private static String slow(int coins) {
        return "r0;b1 1 1 0 0 0 0;b0 1 0 0 0 0 20;o1 0 5 5 0;o1 0 " + coins + " 1 4;o0 1 1 2 4;";
    }

    private static void ownBidDoesNotCount() {
        DayNames x = Check.town(NightTest.TWO);
        x.bids(4, 40);
        Check.due("inNights(1, 0)", x.inNights(1, 0), 1);
        Check.due("purseIn(1, 1)", x.purseIn(1, 1), 5);
        Check.due("falls(1)", x.falls(1), 1);
        Check.due("buy(4, 1, 1)", x.buy(4, 1, 1), 7);
        Check.due("hold(4, 1, 0)", x.hold(4, 1, 0), 7);
        Check.due("ring(0, 1, 1)", x.ring(0, 1, 1), 5);
        Check.nights(x, 4);
        Check.due("SPENT", x.now(2), 7);
        Check.due("hold() counts what it costs alone", x.hold(3, 1, 0), 7);
    }

    private static void buys(DayNames x, int name, int n, int night, int cost) {
        Check.due("buy(" + name + ", " + n + ", 0)", x.buy(name, n, 0), night);
        Check.due("buy(" + name + ", " + n + ", 1)", x.buy(name, n, 1), cost);
    }

    private static void buy() {
        DayNames x = Check.town(NightTest.TWO);
        buys(x, 4, 1, 1, 7);
        buys(x, 4, 5, 2, 6);
        buys(x, 1, 5, 1, 0);
        buys(x, 0, 1, 1, 7);
        buys(x, 0, 2, 2, 0);
        buys(x, 0, 10, 2, 0);
        x.night();
        buys(x, 1, 1, DayNames.NONE, DayNames.NONE);
        buys(x, 1, 2, 2, 0);
        Check.due("nothing is changed", x.now(0), 1);
        buys(new DayNames(), 3, 10, 1, 1);
        buys(Check.town("b99 9 20 20 0 0 0;"), 2, 10, 1, 21);
        DayNames barred = Check.town("b1 1 1 1 0 0 0;r7;");
        Check.nights(barred, 0, 1);
        buys(barred, 0, 10, DayNames.NONE, DayNames.NONE);
        buys(barred, 2, 10, 1, 1);
        DayNames itself = Check.town("b9 0 0 1 0 0 0;b9 0 2 0 0 0 0;r0;");
        buys(itself, 1, 4, 1, 3);
        buys(itself, 1, 10, 5, 0);
        buys(itself, 4, 10, 5, 2);
        buys(itself, 0, 10, 1, 0);
    }

    private static void holds(DayNames x, int name, int n, int cost, int days) {
        Check.due("hold(" + name + ", " + n + ", 0)", x.hold(name, n, 0), cost);
        Check.due("hold(" + name + ", " + n + ", 1)", x.hold(name, n, 1), days);
    }

    private static void hold() {
        DayNames x = Check.town(NightTest.TWO);
        holds(x, 4, 1, 7, 1);
        holds(x, 4, 2, 7, 1);
        holds(x, 4, 3, 13, 2);
        holds(x, 1, 1, 7, 1);
        x.night();
        holds(x, 1, 1, 0, 0);
        Check.due("nothing is changed", x.now(0) + x.now(2), 1);
        holds(Check.town("r0;"), 2, 6, 6, 6);
        holds(Check.town("r2;"), 2, 6, 1, 1);
        holds(Check.town("b99 9 20 20 0 0 0;r0;"), 2, 6, 126, 6);
        holds(Check.town("b99 9 20 20 0 0 0;r0;"), 0, 6, 126, 6);
    }

    private static void ring() {
        DayNames x = Check.town(NightTest.TWO);
        Check.due("ring(0, 1, 1)", x.ring(0, 1, 1), 5);
        Check.due("ring(1, 0, 1)", x.ring(1, 0, 1), 5);
        Check.due("ring(0, 1, 2)", x.ring(0, 1, 2), 9);
        Check.due("nothing is changed", x.now(0), 0);
        // 0 pays 2 against the 1 of the other, and 1 as a ring, on each of 20 NIGHTS
        DayNames twenty = Check.town("b9 2 2 0 0 0 0;b9 2 1 0 0 0 0;r0;");
        Check.due("ring(0, 1, 20)", twenty.ring(0, 1, 20), 20);
        DayNames other = Check.town("b9 0 4 0 0 0 0;b9 0 0 3 0 0 0;b9 0 0 0 8 0 0;");
        Check.due("a ring without the winner", other.ring(0, 1, 1), 0);
        Check.due("what the others pay does not count", other.ring(0, 2, 1), 5 - 4);
        DayNames idle = Check.town("b9 0 0 0 0 0 0;b9 0 3 0 0 0 0;");
        Check.due("who bids for none bids lower", idle.ring(0, 1, 1), 0);
        // for a coin less the winner can buy again, which he could not have done
        DayNames more = Check.town("b9 0 4 0 0 0 0;b9 0 5 5 0 0 0;b99 0 0 0 3 3 3;");
        Check.due("a ring that pays more", more.ring(0, 1, 2), -3);
    }

    private static void ringOfAlike() {
        DayNames x = Check.town("b5 3 5 0 0 0 0;b5 0 0 5 0 0 0;b9 9 0 0 0 2 2;");
        Check.due("ring(0, 1, 3)", x.ring(0, 1, 3), 2);
        Check.due("ring(1, 0, 3)", x.ring(1, 0, 3), 2);
    }

    private static void bad(String call, int got) {
        Check.due(call, got, DayNames.BAD);
    }

    private static void no(String call, int got) {
        Check.due(call, got, DayNames.NO);
    }

    private static void wrongNumbers() {
        DayNames x = Check.town(NightTest.TWO);
        bad("inNights(-1, 0)", x.inNights(-1, 0));
        bad("inNights(21, 0)", x.inNights(21, 0));
        bad("inNights(0, -1)", x.inNights(0, -1));
        bad("inNights(0, 3)", x.inNights(0, 3));
        bad("purseIn(-1, 0)", x.purseIn(-1, 0));
        bad("purseIn(2, 0)", x.purseIn(2, 0));
        bad("purseIn(0, -1)", x.purseIn(0, -1));
        bad("purseIn(0, 21)", x.purseIn(0, 21));
        bad("falls(-1)", x.falls(-1));
        bad("falls(2)", x.falls(2));
        int[][] buys = {{-1, 1, 0}, {5, 1, 0}, {0, 0, 0}, {0, 11, 0}, {0, 1, -1}, {0, 1, 2}};
        for (int[] w : buys) bad("a wrong buy()", x.buy(w[0], w[1], w[2]));
        int[][] holds = {{-1, 1, 0}, {5, 1, 0}, {0, 0, 0}, {0, 7, 0}, {0, 1, -1}, {0, 1, 2}};
        for (int[] w : holds) bad("a wrong hold()", x.hold(w[0], w[1], w[2]));
        int[][] rings = {{0, 0, 1}, {-1, 0, 1}, {0, -1, 1}, {2, 0, 1}, {0, 2, 1}, {0, 1, 0}, {0, 1, 21}};
        for (int[] w : rings) no("a wrong ring()", x.ring(w[0], w[1], w[2]));
    }
}
