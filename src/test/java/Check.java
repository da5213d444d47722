/** What the tests share: a town by its text, and the count of wrong answers. */
final class Check {
    private static int wrong = 0;

    private Check() { }

    static void due(String what, long got, long want) {
        if (got == want) return;
        wrong++;
        System.out.println(what + " answered " + got + ", due is " + want);
    }

    static void type(DayNames x, String text) {
        for (int i = 0; i < text.length(); i++) x.type(text.charAt(i));
    }

    static DayNames town(String text) {
        DayNames x = new DayNames();
        type(x, text);
        int items = x.town();
        if (items < 0) due("town() of " + text, items, 0);
        return x;
    }

    static void nights(DayNames x, int... names) {
        for (int i = 0; i < names.length; i++) due("night() number " + (i + 1), x.night(), names[i]);
    }

    static void days(DayNames x, int... names) {
        due("now(0)", x.now(0), names.length);
        for (int i = 1; i <= names.length; i++) due("day(" + i + ")", x.day(i), names[i - 1]);
    }

    static void finish() {
        if (wrong != 0) System.exit(1);
    }
}
