import java.util.ArrayDeque;
import java.util.ArrayList;
import java.util.Arrays;
import java.util.Deque;
import java.util.List;
import java.util.regex.Matcher;
import java.util.regex.Pattern;

/** The document told once more, in another way and with the Java library, for the random runs. */
final class Model {
    record Bidder(int purse, int wage, List<Integer> worths) { }

    record Debt(int who, int toWhom, int coins, int k, int name) {
        int fact(int what) {
            return List.of(who, toWhom, coins, k, name).get(what);
        }
    }

    record Own(int name, int coins) { }

    record Find(int night, int name) { }

    record Sale(int name, int payer, int coins, int highest) { }

    static final class Now {
        List<Integer> days = new ArrayList<>();
        List<Integer> purses = new ArrayList<>();
        List<Integer> how = new ArrayList<>();
        int skipped, spent;
        Own own;

        Now copy() {
            Now c = new Now();
            c.days.addAll(days);
            c.purses.addAll(purses);
            c.how.addAll(how);
            c.skipped = skipped;
            c.spent = spent;
            c.own = own;
            return c;
        }

        int defaults() {
            return (int) how.stream().filter(h -> h == 2).count();
        }
    }

    private final StringBuilder text = new StringBuilder();
    private List<Bidder> bidders = new ArrayList<>();
    private List<Debt> debts = new ArrayList<>();
    private int bar = 1;
    private Now now = new Now();
    private final Deque<Now> past = new ArrayDeque<>();
    private final Now[] images = new Now[2];
    private final List<Find> finds = new ArrayList<>();
    private final List<Integer> plan = new ArrayList<>();
    private long trace;

    long call(String call, int[] a) {
        switch (call) {
            case "type": return type(a[0]);
            case "clear": return cleared();
            case "town": return town();
            case "bidder": return bidder(a[0], a[1]);
            case "debt": return debt(a[0], a[1]);
            case "day": return a[0] < 1 || a[0] > now.days.size() ? -1 : now.days.get(a[0] - 1);
            case "name": return name(a[0], a[1]);
            case "now": return now(a[0]);
            case "night": return night();
            case "bids": return bids(a[0], a[1]);
            case "undo": return undo();
            case "inNights": return inNights(a[0], a[1]);
            case "purseIn": return noBidder(a[0]) || out(a[1], 0, 20) ? -1 : ahead(a[1]).purses.get(a[0]);
            case "falls": return falls(a[0]);
            case "buy": return buy(a[0], a[1], a[2]);
            case "hold": return hold(a[0], a[1], a[2]);
            case "ring": return ring(a[0], a[1], a[2]);
            case "found": return found(a[0], a[1]);
            case "forget": return emptied(finds);
            case "mayBe": return mayBe(a[0], a[1], a[2]);
            case "plan": return plan(a[0]);
            case "unplan": return emptied(plan);
            case "planned": return planned(a[0]);
            case "odds": return odds(a[0], a[1], a[2], a[3]);
            case "rate": return rated(a[0], a[1]);
            case "keep": return keep(a[0]);
            case "back": return back(a[0]);
            case "count": return count(a[0]);
            case "trace": return trace;
            default: throw new IllegalArgumentException(call);
        }
    }

    private static boolean out(int x, int least, int most) {
        return x < least || x > most;
    }

    private boolean noBidder(int b) {
        return out(b, 0, bidders.size() - 1);
    }

    private boolean noDebt(int d) {
        return out(d, 0, debts.size() - 1);
    }

    private int type(int letter) {
        if (out(letter, 0, 255)) return -1;
        if (text.length() == 200) return -3;
        return text.append((char) letter).length();
    }

    private int cleared() {
        int had = text.length();
        text.setLength(0);
        return had;
    }

    private static int emptied(List<?> list) {
        int had = list.size();
        list.clear();
        return had;
    }

    private static final Pattern TOKEN = Pattern.compile("[0-9]+|[^ ]");
    private static final String NUMBER = "0|[1-9][0-9]?";

    private int town() {
        List<Bidder> newBidders = new ArrayList<>();
        List<Debt> newDebts = new ArrayList<>();
        int newBar = -1;
        int items = 0;
        String shape = "";
        List<Integer> said = new ArrayList<>();
        Matcher m = TOKEN.matcher(text);
        while (m.find()) {
            String t = m.group();
            boolean fits;
            if (shape.isEmpty()) {
                fits = t.equals("b") && newBidders.size() < 4 || t.equals("r") && newBar < 0
                        || t.equals("o") && newDebts.size() < 6;
                shape = t;
                said.clear();
            } else if (said.size() == numbersOf(shape)) {
                fits = t.equals(";");
                if (shape.equals("b")) newBidders.add(new Bidder(said.get(0), said.get(1), List.copyOf(said.subList(2, 7))));
                if (shape.equals("r")) newBar = said.get(0);
                if (shape.equals("o")) newDebts.add(new Debt(said.get(0), said.get(1), said.get(2), said.get(3), said.get(4)));
                shape = "";
                items++;
            } else {
                fits = t.matches(NUMBER) && fits(shape, said, Integer.parseInt(t), newBidders.size());
                if (fits) said.add(Integer.parseInt(t));
            }
            if (!fits) return -10 - m.start();
        }
        if (!shape.isEmpty()) return -10 - text.length();
        bidders = newBidders;
        debts = newDebts;
        bar = newBar < 0 ? 1 : newBar;
        now = new Now();
        for (Bidder b : bidders) now.purses.add(b.purse());
        for (int d = 0; d < debts.size(); d++) now.how.add(0);
        past.clear();
        finds.clear();
        plan.clear();
        Arrays.fill(images, null);
        text.setLength(0);
        return items;
    }

    private static int numbersOf(String shape) {
        return shape.equals("b") ? 7 : shape.equals("r") ? 1 : 5;
    }

    private static boolean fits(String shape, List<Integer> said, int x, int told) {
        int i = said.size();
        if (shape.equals("b")) return x <= (i == 0 ? 99 : i == 1 ? 9 : 20);
        if (shape.equals("r")) return x <= 7;
        if (i == 0) return x < told;
        if (i == 1) return x < told && x != said.get(0);
        if (i == 2) return x >= 1 && x <= 50;
        if (i == 3) return x >= 1 && x <= 5;
        return x <= 4;
    }

    private int bidder(int b, int what) {
        if (noBidder(b) || out(what, 0, 6)) return -1;
        if (what == 0) return now.purses.get(b);
        return what == 1 ? bidders.get(b).wage() : bidders.get(b).worths().get(what - 2);
    }

    private int debt(int d, int what) {
        if (noDebt(d) || out(what, 0, 5)) return -1;
        return what == 5 ? now.how.get(d) : debts.get(d).fact(what);
    }

    private boolean barred(Now s, int name) {
        return s.days.subList(Math.max(0, s.days.size() - bar), s.days.size()).contains(name);
    }

    private int name(int n, int what) {
        if (out(n, 0, 4) || out(what, 0, 2)) return -1;
        if (what == 0) return (int) now.days.stream().filter(x -> x == n).count();
        return what == 1 ? now.days.lastIndexOf(n) + 1 : barred(now, n) ? 1 : 0;
    }

    private int now(int what) {
        switch (what) {
            case 0: return now.days.size();
            case 1: return now.skipped;
            case 2: return now.spent;
            case 3: return now.defaults();
            case 4: return never();
            case 5: return past.size();
            default: return -1;
        }
    }

    private int never() {
        int bits = 0;
        for (int d = 0; d < debts.size(); d++) {
            int name = debts.get(d).name();
            boolean wanted = bidders.stream().anyMatch(b -> b.worths().get(name) != 0);
            if (now.how.get(d) == 0 && !wanted) bits += (int) Math.pow(2, d);
        }
        return bits;
    }

    /** A bid: who (4: oneself), for what, how much. */
    private int[] bidOf(Now s, int b) {
        int[] best = {b, -1, 0};
        for (int name = 4; name >= 0; name--) {
            int worth = bidders.get(b).worths().get(name);
            boolean may = worth > 0 && worth <= s.purses.get(b) && !barred(s, name);
            if (may && worth >= best[2]) best = new int[] {b, name, worth};
        }
        return best;
    }

    private List<int[]> bidsOf(Now s) {
        List<int[]> all = new ArrayList<>();
        for (int b = 0; b < bidders.size(); b++) {
            int[] bid = bidOf(s, b);
            if (bid[2] > 0) all.add(bid);
        }
        return all;
    }

    private Sale sell(Now s, List<int[]> all) {
        if (all.isEmpty()) {
            s.skipped++;
            return new Sale(-1, -1, 0, 0);
        }
        List<int[]> order = new ArrayList<>(all);
        order.sort((p, q) -> p[2] != q[2] ? q[2] - p[2] : p[0] - q[0]);
        int[] first = order.get(0);
        int pays = order.size() == 1 ? 1 : Math.min(first[2], order.get(1)[2] + 1);
        if (first[0] == 4) s.spent += pays;
        else s.purses.set(first[0], s.purses.get(first[0]) - pays);
        dawn(s, first[1]);
        return new Sale(first[1], first[0], pays, first[2]);
    }

    private void dawn(Now s, int name) {
        s.days.add(name);
        for (int b = 0; b < bidders.size(); b++) s.purses.set(b, s.purses.get(b) + bidders.get(b).wage());
        long nth = s.days.stream().filter(x -> x == name).count();
        for (int d = 0; d < debts.size(); d++) {
            Debt debt = debts.get(d);
            if (debt.name() != name || debt.k() != nth) continue;
            if (s.purses.get(debt.who()) < debt.coins()) {
                s.how.set(d, 2);
            } else {
                s.purses.set(debt.who(), s.purses.get(debt.who()) - debt.coins());
                s.purses.set(debt.toWhom(), s.purses.get(debt.toWhom()) + debt.coins());
                s.how.set(d, 1);
            }
        }
    }

    private void remember() {
        past.addLast(now.copy());
        if (past.size() > 10) past.removeFirst();
    }

    private int night() {
        if (now.days.size() == 60 || now.skipped == 99) return -2;
        remember();
        List<int[]> all = bidsOf(now);
        if (now.own != null && !barred(now, now.own.name())) all.add(new int[] {4, now.own.name(), now.own.coins()});
        now.own = null;
        Sale sale = sell(now, all);
        return sale.name() < 0 ? -5 : sale.name();
    }

    private int bids(int n, int coins) {
        if (out(n, 0, 4) || out(coins, 1, 40)) return -1;
        remember();
        int before = now.own == null ? -9 : now.own.name();
        now.own = new Own(n, coins);
        return before;
    }

    private int undo() {
        if (past.isEmpty()) return -2;
        now = past.removeLast();
        return past.size();
    }

    private Now ahead(int n) {
        Now s = now.copy();
        for (int i = 0; i < n; i++) sell(s, bidsOf(s));
        return s;
    }

    private int inNights(int n, int what) {
        if (out(n, 0, 20) || out(what, 0, 2)) return -1;
        Now s = ahead(n);
        if (what == 0) return s.days.isEmpty() ? -9 : s.days.get(s.days.size() - 1);
        return what == 1 ? s.days.size() : s.defaults();
    }

    private int falls(int d) {
        if (noDebt(d)) return -1;
        for (int n = 0; n <= 40; n++) {
            if (ahead(n).how.get(d) != 0) return n;
        }
        return -9;
    }

    private int buy(int name, int n, int what) {
        if (out(name, 0, 4) || out(n, 1, 10) || out(what, 0, 1)) return -1;
        int[] best = {-9, -9};
        for (int i = n; i >= 1; i--) {
            Now s = ahead(i - 1);
            if (barred(s, name)) continue;
            Sale sale = sell(s.copy(), bidsOf(s));
            int cost = sale.name() == name ? 0 : costOf(s, name, sale.highest() + 1);
            if (cost <= 40 && (best[0] < 0 || cost <= best[1])) best = new int[] {i, cost};
        }
        return best[what];
    }

    private int costOf(Now s, int name, int bid) {
        Now t = s.copy();
        List<int[]> all = bidsOf(t);
        all.add(new int[] {4, name, bid});
        return sell(t, all).coins();
    }

    private int hold(int name, int n, int what) {
        if (out(name, 0, 4) || out(n, 1, 6) || out(what, 0, 1)) return -1;
        Now s = now.copy();
        int cost = 0;
        int held = 0;
        for (int i = 0; i < n; i++) {
            List<int[]> all = bidsOf(s);
            int highest = all.stream().mapToInt(bid -> bid[2]).max().orElse(0);
            if (!barred(s, name)) all.add(new int[] {4, name, highest + 1});
            Sale sale = sell(s, all);
            if (sale.payer() == 4) {
                cost += sale.coins();
                held++;
            }
        }
        return what == 0 ? cost : held;
    }

    private int ring(int a, int b, int n) {
        if (noBidder(a) || noBidder(b) || a == b || out(n, 1, 20)) return -1000000;
        Now asItIs = now.copy();
        Now ring = now.copy();
        int less = 0;
        for (int i = 0; i < n; i++) {
            Sale sale = sell(asItIs, bidsOf(asItIs));
            if (sale.payer() == a || sale.payer() == b) less += sale.coins();
            int offerA = bidOf(ring, a)[2];
            int offerB = bidOf(ring, b)[2];
            int silent = offerA < offerB ? a : offerB < offerA ? b : Math.max(a, b);
            List<int[]> all = bidsOf(ring);
            all.removeIf(bid -> bid[0] == silent);
            sale = sell(ring, all);
            if (sale.payer() == a || sale.payer() == b) less -= sale.coins();
        }
        return less;
    }

    private int found(int i, int name) {
        if (out(i, 1, 8) || out(name, -1, 4)) return -1;
        if (finds.size() == 5) return -3;
        finds.add(new Find(i, name));
        return finds.size();
    }

    private int mayBe(int b, int name, int what) {
        if (noBidder(b) || out(name, 0, 4) || out(what, 0, 1)) return -1;
        Bidder real = bidders.get(b);
        List<Integer> good = new ArrayList<>();
        for (int worth = 0; worth <= 20; worth++) {
            List<Integer> worths = new ArrayList<>(real.worths());
            worths.set(name, worth);
            bidders.set(b, new Bidder(real.purse(), real.wage(), worths));
            if (finds.stream().allMatch(f -> broughtBy(f.night()) == f.name())) good.add(worth);
        }
        bidders.set(b, real);
        return what == 0 ? good.size() : good.isEmpty() ? -9 : good.get(0);
    }

    private int broughtBy(int night) {
        Now s = ahead(night - 1);
        return sell(s, bidsOf(s)).name();
    }

    private int plan(int name) {
        if (out(name, -1, 4)) return -1;
        if (plan.size() == 8) return -3;
        plan.add(name);
        return plan.size();
    }

    private int planned(int b) {
        if (b != -1 && noBidder(b)) return -1;
        Now s = now.copy();
        for (int name : plan) {
            if (name != -1) dawn(s, name);
        }
        return b == -1 ? s.defaults() - now.defaults() : s.purses.get(b);
    }

    /** Every row of strikes is gone through: in tenths to the n. */
    private long dueBy(Now s, int d, int p, int n) {
        if (n == 0) return s.how.get(d) != 0 ? 1 : 0;
        Now struck = s.copy();
        sell(struck, List.of());
        Now sold = s.copy();
        sell(sold, bidsOf(sold));
        return p * dueBy(struck, d, p, n - 1) + (10 - p) * dueBy(sold, d, p, n - 1);
    }

    private int odds(int d, int p, int n, int what) {
        if (noDebt(d) || out(p, 0, 10) || out(n, 0, 6) || out(what, 0, 1)) return -1;
        long upper = dueBy(now, d, p, n);
        long lower = Math.round(Math.pow(10, n));
        for (int prime : new int[] {2, 5}) {
            while (upper % prime == 0 && lower % prime == 0) {
                upper /= prime;
                lower /= prime;
            }
        }
        return (int) (what == 0 ? upper : lower);
    }

    private static final int[] ABOVE = {-1, 0, 0, 1, 2, 0};

    private int rated(int kind, int b) {
        return out(kind, 0, 5) || noBidder(b) ? -1000000 : rate(kind, b);
    }

    private int rate(int kind, int b) {
        trace += Math.round(Math.pow(10, kind));
        if (kind == 0) return now.purses.get(b);
        int up = rate(ABOVE[kind], b);
        switch (kind) {
            case 1: return up + bidders.get(b).wage();
            case 2:
                for (int d = 0; d < debts.size(); d++) {
                    if (now.how.get(d) == 0 && debts.get(d).who() == b) up -= debts.get(d).coins();
                }
                return up;
            case 3: return up * 2;
            case 4: return up + b;
            default: return up + now.days.size();
        }
    }

    private int keep(int image) {
        if (out(image, 0, 1)) return -1;
        images[image] = now.copy();
        return now.days.size();
    }

    private int back(int image) {
        if (out(image, 0, 1)) return -1;
        if (images[image] == null) return -2;
        now = images[image].copy();
        past.clear();
        return now.days.size();
    }

    private int count(int what) {
        if (out(what, 0, 5)) return -1;
        return new int[] {bidders.size(), bar, debts.size(), finds.size(), plan.size(), text.length()}[what];
    }
}
