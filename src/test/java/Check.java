import java.lang.reflect.InvocationTargetException;
import java.lang.reflect.Method;
import java.lang.reflect.Modifier;
import java.util.Arrays;
import java.util.Comparator;

/** What the tests share: a town by its text, and the count of wrong answers. */
final class Check {
    private static int wrong = 0;
    private static String test = "";

    private Check() { }

    static void due(String what, long got, long want) {
        if (got == want) return;
        wrong++;
        System.out.println(test + what + " answered " + got + ", due is " + want);
    }

    static void same(String what, String got, String want) {
        if (got.equals(want)) return;
        wrong++;
        System.out.println(test + what + "\n  is  " + got + "\n  due " + want);
    }

    static void type(DayNames x, String text) {
        for (int i = 0; i < text.length(); i++) x.type(text.charAt(i));
    }

    static DayNames town(String text) {
        DayNames x = new DayNames();
        type(x, text);
        int items = x.town();
        if (items < 0) due("town() of " + text, items, 0);
        return x;
    }

    /** What town() answers to a text, and how many letters are left then. */
    static void reads(String text, int answer) {
        DayNames x = new DayNames();
        type(x, text);
        due("town() of '" + text + "'", x.town(), answer);
        due("letters behind town() of '" + text + "'", x.count(5), answer < 0 ? text.length() : 0);
    }

    static void fault(String text, int place) {
        reads(text, -10 - place);
    }

    static void nights(DayNames x, int... names) {
        for (int i = 0; i < names.length; i++) due("night() number " + (i + 1), x.night(), names[i]);
    }

    static void days(DayNames x, int... names) {
        due("now(0)", x.now(0), names.length);
        for (int i = 1; i <= names.length; i++) due("day(" + i + ")", x.day(i), names[i - 1]);
    }

    static void purses(DayNames x, int... purses) {
        for (int b = 0; b < purses.length; b++) due("PURSE of " + b, x.bidder(b, 0), purses[b]);
    }

    /** Runs each test of a class: its static methods that are not private and take nothing. */
    static void runAll(Class<?> tests) {
        Method[] methods = tests.getDeclaredMethods();
        Arrays.sort(methods, Comparator.comparing(Method::getName));
        for (Method m : methods) {
            if (m.getParameterCount() == 0 && !Modifier.isPrivate(m.getModifiers())) run(m);
        }
        finish();
    }

    private static void run(Method m) {
        test = m.getName() + ": ";
        try {
            m.invoke(null);
        } catch (InvocationTargetException e) {
            wrong++;
            System.out.println(test + "threw " + e.getCause());
        } catch (IllegalAccessException e) {
            throw new IllegalStateException(e);
        }
    }

    static void finish() {
        if (wrong != 0) System.exit(1);
    }
}
