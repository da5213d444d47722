import java.util.ArrayList;
import java.util.Arrays;
import java.util.List;
import java.util.Random;

/** Seeded random runs of all calls beside the Model, with wild numbers among them: nothing may throw. */
public final class RandomRunsTest {
    private static final int RUNS = Integer.getInteger("runs", 1500);
    private static final String[] CALLS = {"bidder", "debt", "day", "name", "now", "night", "bids", "undo", "inNights",
        "purseIn", "falls", "buy", "hold", "ring", "found", "forget", "mayBe", "plan", "unplan", "planned", "odds",
        "rate", "keep", "back", "count", "trace", "clear", "type", "town", "night", "night", "night", "night", "bids"};
    private static final int[] WILD = {Integer.MIN_VALUE, Integer.MAX_VALUE, -2, -1000000, 256, 1 << 30, 61, 100};

    private final Random random;
    private final DayNames x = new DayNames();
    private final Model model = new Model();
    private final List<String> told = new ArrayList<>();
    private int calls;

    private RandomRunsTest(long seed) {
        random = new Random(seed);
    }

    public static void main(String[] args) {
        for (long seed = 0; seed < RUNS; seed++) {
            RandomRunsTest run = new RandomRunsTest(seed);
            if (run.goesWrong()) {
                System.out.println("random run " + seed + ":");
                run.told.forEach(line -> System.out.println("  " + line));
                System.exit(1);
            }
        }
    }

    private boolean goesWrong() {
        while (calls < 512) {
            boolean bare = model.call("count", new int[] {0}) == 0 && random.nextInt(8) == 0;
            if (calls == 0 || bare || random.nextInt(250) == 0) {
                if (tellsWrong(townText())) return true;
            }
            String call = CALLS[random.nextInt(CALLS.length)];
            if (call.equals("town") && random.nextInt(12) != 0) continue;
            if (differs(call, arguments(call))) return true;
        }
        return false;
    }

    private boolean tellsWrong(String text) {
        if (differs("clear", new int[0])) return true;
        for (char letter : text.toCharArray()) {
            if (differs("type", new int[] {letter})) return true;
        }
        return differs("town", new int[0]) || differs("count", new int[] {random.nextInt(3)});
    }

    private boolean differs(String call, int[] a) {
        if (calls >= 512) return false;
        calls++;
        long want = model.call(call, a);
        long got = answer(call, a);
        told.add(call + Arrays.toString(a) + " answered " + got + ", the model " + want);
        return got != want;
    }

    private String townText() {
        StringBuilder text = new StringBuilder();
        int most = random.nextInt(5) == 0 ? 5 : 4;
        int bidders = random.nextInt(6) == 0 ? random.nextInt(most + 1) : 2 + random.nextInt(most - 1);
        int bar = random.nextInt(8);
        if (random.nextInt(3) != 0) text.append("r").append(random.nextInt(3) == 0 ? bar : bar % 3).append(gap()).append(";");
        int rich = 1 + random.nextInt(99);
        int dear = 1 + random.nextInt(20);
        for (int b = 0; b < bidders; b++) {
            text.append("b").append(random.nextInt(rich + 1)).append(' ').append(random.nextInt(random.nextBoolean() ? 10 : 3));
            for (int name = 0; name < 5; name++) {
                text.append(' ').append(gap()).append(random.nextInt(3) == 0 ? 0 : random.nextInt(dear + 1));
            }
            text.append(";");
        }
        int debts = bidders < 2 ? 0 : random.nextInt(8);
        for (int d = 0; d < debts; d++) {
            int who = random.nextInt(bidders);
            int toWhom = (who + 1 + random.nextInt(bidders - 1)) % bidders;
            text.append("o").append(who).append(gap()).append(' ').append(toWhom).append(' ')
                .append(1 + random.nextInt(random.nextBoolean() ? 50 : 10)).append(' ')
                .append(1 + random.nextInt(random.nextBoolean() ? 5 : 2)).append(' ')
                .append(random.nextInt(5)).append(";");
        }
        int spoilt = random.nextInt(4) == 0 ? 1 + random.nextInt(2) : 0;
        for (int i = 0; i < spoilt && text.length() > 0; i++) spoil(text);
        return text.length() > 200 ? text.substring(0, random.nextInt(3) == 0 ? 200 : text.lastIndexOf(";", 199) + 1)
            : text.toString();
    }

    private String gap() {
        return random.nextInt(12) == 0 ? " " : "";
    }

    private void spoil(StringBuilder text) {
        int place = random.nextInt(text.length());
        String letters = "bro; 0123456789xB\t";
        char letter = letters.charAt(random.nextInt(letters.length()));
        switch (random.nextInt(4)) {
            case 0: text.deleteCharAt(place); break;
            case 1: text.setCharAt(place, letter); break;
            case 2: text.insert(place, letter); break;
            default: text.setLength(place);
        }
    }

    private int upTo(int most) {
        if (random.nextInt(60) == 0) return WILD[random.nextInt(WILD.length)];
        if (random.nextInt(30) == 0) return random.nextBoolean() ? -1 : most + 1;
        return random.nextInt(most + 1);
    }

    private int bidder() {
        return upTo(Math.max(0, (int) model.call("count", new int[] {0}) - 1));
    }

    private int debt() {
        return upTo(Math.max(0, (int) model.call("count", new int[] {2}) - 1));
    }

    private int nameOrNone() {
        return random.nextInt(6) == 0 ? -1 : upTo(4);
    }

    private int[] arguments(String call) {
        switch (call) {
            case "type": return new int[] {upTo(255)};
            case "bidder": return new int[] {bidder(), upTo(6)};
            case "debt": return new int[] {debt(), upTo(5)};
            case "day": return new int[] {upTo(60)};
            case "name": return new int[] {upTo(4), upTo(2)};
            case "now": case "count": return new int[] {upTo(5)};
            case "bids": return new int[] {upTo(4), random.nextBoolean() ? upTo(40) : 1 + upTo(12)};
            case "inNights": return new int[] {upTo(20), upTo(2)};
            case "purseIn": return new int[] {bidder(), upTo(20)};
            case "falls": return new int[] {debt()};
            case "buy": return new int[] {upTo(4), 1 + random.nextInt(10), upTo(1)};
            case "hold": return new int[] {upTo(4), upTo(6), upTo(1)};
            case "ring": return new int[] {bidder(), bidder(), upTo(20)};
            case "found": return found();
            case "mayBe": return new int[] {bidder(), upTo(4), upTo(1)};
            case "plan": return new int[] {nameOrNone()};
            case "planned": return new int[] {random.nextInt(3) == 0 ? -1 : bidder()};
            case "odds": return new int[] {debt(), upTo(10), upTo(6), upTo(1)};
            case "rate": return new int[] {upTo(5), bidder()};
            case "keep": case "back": return new int[] {upTo(1)};
            default: return new int[0];
        }
    }

    /** Mostly what does come, so that it leaves some worths to be counted. */
    private int[] found() {
        int night = 1 + random.nextInt(8);
        if (random.nextInt(3) == 0) return new int[] {upTo(8), nameOrNone()};
        int before = (int) model.call("inNights", new int[] {night - 1, 1});
        int then = (int) model.call("inNights", new int[] {night, 1});
        return new int[] {night, before == then ? -1 : (int) model.call("inNights", new int[] {night, 0})};
    }

    private long answer(String call, int[] a) {
        switch (call) {
            case "type": return x.type(a[0]);
            case "clear": return x.clear();
            case "town": return x.town();
            case "bidder": return x.bidder(a[0], a[1]);
            case "debt": return x.debt(a[0], a[1]);
            case "day": return x.day(a[0]);
            case "name": return x.name(a[0], a[1]);
            case "now": return x.now(a[0]);
            case "night": return x.night();
            case "bids": return x.bids(a[0], a[1]);
            case "undo": return x.undo();
            case "inNights": return x.inNights(a[0], a[1]);
            case "purseIn": return x.purseIn(a[0], a[1]);
            case "falls": return x.falls(a[0]);
            case "buy": return x.buy(a[0], a[1], a[2]);
            case "hold": return x.hold(a[0], a[1], a[2]);
            case "ring": return x.ring(a[0], a[1], a[2]);
            case "found": return x.found(a[0], a[1]);
            case "forget": return x.forget();
            case "mayBe": return x.mayBe(a[0], a[1], a[2]);
            case "plan": return x.plan(a[0]);
            case "unplan": return x.unplan();
            case "planned": return x.planned(a[0]);
            case "odds": return x.odds(a[0], a[1], a[2], a[3]);
            case "rate": return x.rate(a[0], a[1]);
            case "keep": return x.keep(a[0]);
            case "back": return x.back(a[0]);
            case "count": return x.count(a[0]);
            default: return x.trace();
        }
    }
}
