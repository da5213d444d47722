/**
 * Names of days, sold night by night to the highest bid.
 *
 * Every row is made once, with the object; the calls make nothing, so that many of them fit into one room.
 */
public final class DayNames {
    public static final int BAD = -1, STATE = -2, FULL = -3, NONE = -9;
    public static final int NO = -1000000;

    private static final int SKIPPED = -5, BEFORE_FAULT = -10;
    private static final int MOST_LETTERS = 200, LAST_LETTER = 255;
    private static final int MOST_BIDDERS = 4, NAMES = 5, MOST_DEBTS = 6;
    private static final int MOST_WORTH = 20, MOST_BAR = 7, FIRST_BAR = 1;
    private static final int MOST_DAYS = 60, MOST_SKIPPED = 99, MOST_COINS = 40;
    private static final int NIGHTS_IN = 20, NIGHTS_FALLS = 40, NIGHTS_BUY = 10, NIGHTS_HOLD = 6;
    private static final int NIGHTS_RING = 20, NIGHTS_FOUND = 8, NIGHTS_ODDS = 6;
    private static final int MOST_FOUND = 5, MOST_PLAN = 8, MOST_UNDONE = 10, IMAGES = 2, TENTHS = 10;
    private static final int OPEN = 0, PAID = 1, DEFAULT = 2;

    private final Text text = new Text();
    private final Town told = new Town();
    private final Reader reader = new Reader(text);
    private final Moment current = new Moment();
    private final Nights nights = new Nights(told);
    private final Outlook outlook = new Outlook(told, nights);
    private final Finds finds = new Finds(told, nights);
    private final Agenda agenda = new Agenda(nights);
    private final Past past = new Past();
    private final Rates rates = new Rates(told, current);

    public DayNames() {
        current.begin(told);
    }

    // ---- the town

    public int type(int letter) {
        if (!within(letter, 0, LAST_LETTER)) return BAD;
        if (text.length >= MOST_LETTERS) return FULL;
        text.add(letter);
        return text.length;
    }

    public int clear() {
        return text.empty();
    }

    public int town() {
        int items = reader.read();
        if (items < 0) return items;
        told.copyFrom(reader.draft);
        current.begin(told);
        finds.empty();
        agenda.empty();
        past.loseAll();
        text.empty();
        return items;
    }

    public int bidder(int b, int what) {
        if (!isBidder(b) || !within(what, 0, Town.BIDDER_FACTS - 1)) return BAD;
        return what == Town.PURSE ? current.purse(b) : told.ofBidder(b, what);
    }

    public int debt(int d, int what) {
        if (!isDebt(d) || !within(what, 0, Town.DEBT_FACTS)) return BAD;
        return what == Town.DEBT_FACTS ? current.howIs(d) : told.ofDebt(d, what);
    }

    public int day(int i) {
        return within(i, 1, current.days) ? current.nameOfDay(i) : BAD;
    }

    public int name(int n, int what) {
        if (!isName(n)) return BAD;
        switch (what) {
            case 0: return current.daysCalled(n);
            case 1: return current.latestCalled(n);
            case 2: return current.isBarred(n, told.bar) ? 1 : 0;
            default: return BAD;
        }
    }

    public int now(int what) {
        switch (what) {
            case 0: return current.days;
            case 1: return current.skipped;
            case 2: return current.spent;
            case 3: return current.defaults();
            case 4: return neverDue();
            case 5: return past.known;
            default: return BAD;
        }
    }

    // ---- what is done

    public int night() {
        if (current.days >= MOST_DAYS || current.skipped >= MOST_SKIPPED) return STATE;
        past.remember(current);
        nights.open(current);
        nights.bidOwn(current, current.ownName, current.ownCoins);
        current.dropOwn();
        return nights.close(current);
    }

    public int bids(int n, int coins) {
        if (!isName(n) || !within(coins, 1, MOST_COINS)) return BAD;
        past.remember(current);
        int before = current.ownName;
        current.ownName = n;
        current.ownCoins = coins;
        return before;
    }

    public int undo() {
        return past.stepBack(current) ? past.known : STATE;
    }

    // ---- what comes

    public int inNights(int n, int what) {
        if (!within(n, 0, NIGHTS_IN) || !within(what, 0, 2)) return BAD;
        Moment then = outlook.after(current, n);
        if (what == 1) return then.days;
        if (what == 2) return then.defaults();
        return then.days == 0 ? NONE : then.nameOfDay(then.days);
    }

    public int purseIn(int b, int n) {
        if (!isBidder(b) || !within(n, 0, NIGHTS_IN)) return BAD;
        return outlook.after(current, n).purse(b);
    }

    public int falls(int d) {
        return isDebt(d) ? outlook.nightDue(current, d, NIGHTS_FALLS) : BAD;
    }

    // ---- what can be bought

    public int buy(int name, int n, int what) {
        if (!isName(name) || !within(n, 1, NIGHTS_BUY) || !within(what, 0, 1)) return BAD;
        return outlook.cheapest(current, name, n, what);
    }

    public int hold(int name, int n, int what) {
        if (!isName(name) || !within(n, 1, NIGHTS_HOLD) || !within(what, 0, 1)) return BAD;
        return outlook.holding(current, name, n, what);
    }

    public int ring(int a, int b, int n) {
        if (!isBidder(a) || !isBidder(b) || a == b || !within(n, 1, NIGHTS_RING)) return NO;
        return outlook.paidBy(current, a, b, n, false) - outlook.paidBy(current, a, b, n, true);
    }

    // ---- what was found, plans, odds

    public int found(int i, int name) {
        if (!within(i, 1, NIGHTS_FOUND) || !isNameOrNone(name)) return BAD;
        if (finds.many >= MOST_FOUND) return FULL;
        finds.add(i, name);
        return finds.many;
    }

    public int forget() {
        return finds.empty();
    }

    public int mayBe(int b, int name, int what) {
        if (!isBidder(b) || !isName(name) || !within(what, 0, 1)) return BAD;
        int worths = 0;
        int least = NONE;
        for (int worth = 0; worth <= MOST_WORTH; worth++) {
            if (!finds.agreeWith(current, b, name, worth)) continue;
            worths++;
            if (least == NONE) least = worth;
        }
        return what == 0 ? worths : least;
    }

    public int plan(int name) {
        if (!isNameOrNone(name)) return BAD;
        if (agenda.many >= MOST_PLAN) return FULL;
        agenda.add(name);
        return agenda.many;
    }

    public int unplan() {
        return agenda.empty();
    }

    public int planned(int b) {
        if (b != -1 && !isBidder(b)) return BAD;
        Moment then = agenda.carriedOut(current);
        return b == -1 ? then.defaults() - current.defaults() : then.purse(b);
    }

    public int odds(int d, int p, int n, int what) {
        if (!isDebt(d) || !within(p, 0, TENTHS) || !within(n, 0, NIGHTS_ODDS) || !within(what, 0, 1)) return BAD;
        int upper = chancesOf(outlook.nightDue(current, d, n), p, n);
        int lower = power(TENTHS, n);
        int common = commonDivisor(upper, lower);
        if (common == 0) return 0;
        return (what == 0 ? upper : lower) / common;
    }

    // ---- kinds, images

    public int rate(int kind, int b) {
        return isBidder(b) ? rates.asIf(kind, b) : NO;
    }

    public int keep(int image) {
        if (!within(image, 0, IMAGES - 1)) return BAD;
        past.keepImage(image, current);
        return current.days;
    }

    public int back(int image) {
        if (!within(image, 0, IMAGES - 1)) return BAD;
        return past.backTo(image, current) ? current.days : STATE;
    }

    public int count(int what) {
        switch (what) {
            case 0: return told.bidders;
            case 1: return told.bar;
            case 2: return told.debts;
            case 3: return finds.many;
            case 4: return agenda.many;
            case 5: return text.length;
            default: return BAD;
        }
    }

    public long trace() {
        return rates.track;
    }

    // ---- small help

    private boolean isBidder(int b) {
        return within(b, 0, told.bidders - 1);
    }

    private boolean isDebt(int d) {
        return within(d, 0, told.debts - 1);
    }

    private int neverDue() {
        int bits = 0;
        for (int d = 0; d < told.debts; d++) {
            if (current.howIs(d) == OPEN && !told.isWanted(told.ofDebt(d, Town.NAME))) bits |= 1 << d;
        }
        return bits;
    }

    /** Of 10 to the n. A strike changes nothing: what counts is only on how many nights things go on. */
    private static int chancesOf(int due, int p, int n) {
        if (due == NONE) return 0;
        int sum = 0;
        for (int sales = due; sales <= n; sales++) {
            sum += choose(n, sales) * power(TENTHS - p, sales) * power(p, n - sales);
        }
        return sum;
    }

    private static boolean isName(int n) {
        return within(n, 0, NAMES - 1);
    }

    private static boolean isNameOrNone(int n) {
        return within(n, -1, NAMES - 1);
    }

    private static boolean within(int number, int least, int most) {
        return number >= least && number <= most;
    }

    private static int at(int[] row, int place) {
        return place >= 0 && place < row.length ? row[place] : 0;
    }

    private static void put(int[] row, int place, int value) {
        if (place >= 0 && place < row.length) row[place] = value;
    }

    private static void copyRow(int[] from, int[] to) {
        for (int i = 0; i < from.length && i < to.length; i++) to[i] = from[i];
    }

    private static int power(int base, int exponent) {
        int product = 1;
        for (int i = 0; i < exponent; i++) product *= base;
        return product;
    }

    private static int choose(int n, int k) {
        int ways = 1;
        for (int i = 1; i <= k; i++) ways = ways * (n - k + i) / i;
        return ways;
    }

    private static int commonDivisor(int a, int b) {
        for (int turn = 0; turn < 64 && b != 0; turn++) {
            int rest = a % b;
            a = b;
            b = rest;
        }
        return a;
    }

    /** THE TEXT, letter by letter. */
    private static final class Text {
        private final int[] letters = new int[MOST_LETTERS];
        private int length;

        void add(int letter) {
            put(letters, length, letter);
            length++;
        }

        int empty() {
            int before = length;
            length = 0;
            return before;
        }

        int letter(int place) {
            return place >= 0 && place < letters.length ? letters[place] : 0;
        }
    }

    /** What the text told: it stays as it is, whatever the nights bring. */
    private static final class Town {
        private static final int PURSE = 0, WAGE = 1, FIRST_WORTH = 2, BIDDER_FACTS = 7;
        private static final int WHO = 0, TO_WHOM = 1, COINS = 2, KTH = 3, NAME = 4, DEBT_FACTS = 5;

        private final int[] bidderFacts = new int[MOST_BIDDERS * BIDDER_FACTS];
        private final int[] debtFacts = new int[MOST_DEBTS * DEBT_FACTS];
        private int bidders, debts, bar = FIRST_BAR;

        void empty() {
            bidders = 0;
            debts = 0;
            bar = FIRST_BAR;
        }

        void copyFrom(Town other) {
            copyRow(other.bidderFacts, bidderFacts);
            copyRow(other.debtFacts, debtFacts);
            bidders = other.bidders;
            debts = other.debts;
            bar = other.bar;
        }

        int ofBidder(int b, int what) {
            return at(bidderFacts, b * BIDDER_FACTS + what);
        }

        void setOfBidder(int b, int what, int value) {
            put(bidderFacts, b * BIDDER_FACTS + what, value);
        }

        int worth(int b, int name) {
            return at(bidderFacts, b * BIDDER_FACTS + FIRST_WORTH + name);
        }

        void setWorth(int b, int name, int value) {
            setOfBidder(b, FIRST_WORTH + name, value);
        }

        int ofDebt(int d, int what) {
            return at(debtFacts, d * DEBT_FACTS + what);
        }

        void setOfDebt(int d, int what, int value) {
            put(debtFacts, d * DEBT_FACTS + what, value);
        }

        boolean isWanted(int name) {
            for (int b = 0; b < bidders; b++) {
                if (worth(b, name) > 0) return true;
            }
            return false;
        }
    }

    /** Reads THE TEXT into a draft, so that a fault leaves the town as it was. */
    private static final class Reader {
        private static final int BLANK = 32;
        private static final int NUMBER = 256, END = 257, WRONG = 258;
        private static final int[] BIDDER_MOST = {99, 9, 20, 20, 20, 20, 20};
        private static final int[] DEBT_LEAST = {0, 0, 1, 1, 0};
        private static final int[] DEBT_MOST = {0, 0, 50, 5, 4};

        private final Text text;
        private final Town draft = new Town();
        private int place, start, token, number;
        private boolean barTold;

        Reader(Text text) {
            this.text = text;
        }

        /** How many items, or what tells the fault: the last token that was read can't stand there. */
        int read() {
            place = 0;
            barTold = false;
            draft.empty();
            int items = 0;
            for (int turn = 0; turn < MOST_LETTERS; turn++) {
                nextToken();
                if (token == END) break;
                boolean fits;
                switch (token) {
                    case 'b': fits = readsBidder(); break;
                    case 'r': fits = readsBar(); break;
                    case 'o': fits = readsDebt(); break;
                    default: fits = false;
                }
                if (!fits) return BEFORE_FAULT - start;
                items++;
            }
            return items;
        }

        private boolean readsBidder() {
            int b = draft.bidders;
            if (b >= MOST_BIDDERS) return false;
            for (int what = 0; what < Town.BIDDER_FACTS; what++) {
                if (!readsNumber(0, at(BIDDER_MOST, what))) return false;
                draft.setOfBidder(b, what, number);
            }
            if (!readsEnd()) return false;
            draft.bidders++;
            return true;
        }

        private boolean readsBar() {
            if (barTold || !readsNumber(0, MOST_BAR)) return false;
            barTold = true;
            draft.bar = number;
            return readsEnd();
        }

        private boolean readsDebt() {
            int d = draft.debts;
            if (d >= MOST_DEBTS) return false;
            for (int what = 0; what < Town.DEBT_FACTS; what++) {
                int most = what <= Town.TO_WHOM ? draft.bidders - 1 : at(DEBT_MOST, what);
                if (!readsNumber(at(DEBT_LEAST, what), most)) return false;
                if (what == Town.TO_WHOM && number == draft.ofDebt(d, Town.WHO)) return false;
                draft.setOfDebt(d, what, number);
            }
            if (!readsEnd()) return false;
            draft.debts++;
            return true;
        }

        private boolean readsNumber(int least, int most) {
            nextToken();
            return token == NUMBER && within(number, least, most);
        }

        private boolean readsEnd() {
            nextToken();
            return token == ';';
        }

        private void nextToken() {
            while (place < text.length && text.letter(place) == BLANK) place++;
            start = place;
            if (place >= text.length) {
                token = END;
                return;
            }
            int letter = text.letter(place);
            if (isDigit(letter)) {
                takeNumber();
                return;
            }
            token = letter == 'b' || letter == 'r' || letter == 'o' || letter == ';' ? letter : WRONG;
            place++;
        }

        private void takeNumber() {
            number = 0;
            while (place < text.length && isDigit(text.letter(place))) {
                // 100 stands for all that is above 99: more digits must not overflow it
                number = Math.min(100, number * 10 + text.letter(place) - '0');
                place++;
            }
            boolean zeroAhead = text.letter(start) == '0' && place > start + 1;
            token = zeroAhead || number > 99 ? WRONG : NUMBER;
        }

        private static boolean isDigit(int letter) {
            return letter >= '0' && letter <= '9';
        }
    }

    /** NOW, or a night to come: all that nights and one's own bids change. */
    private static final class Moment {
        // the nights to come go on beyond the last day that night() may bring
        private final int[] names = new int[MOST_DAYS + NIGHTS_FALLS];
        private final int[] purses = new int[MOST_BIDDERS];
        private final int[] debts = new int[MOST_DEBTS];
        private int days, skipped, spent, ownName, ownCoins;

        void begin(Town town) {
            for (int b = 0; b < purses.length; b++) purses[b] = town.ofBidder(b, Town.PURSE);
            for (int d = 0; d < debts.length; d++) debts[d] = OPEN;
            days = 0;
            skipped = 0;
            spent = 0;
            dropOwn();
        }

        void copyFrom(Moment other) {
            copyRow(other.names, names);
            copyRow(other.purses, purses);
            copyRow(other.debts, debts);
            days = other.days;
            skipped = other.skipped;
            spent = other.spent;
            ownName = other.ownName;
            ownCoins = other.ownCoins;
        }

        void dropOwn() {
            ownName = NONE;
            ownCoins = 0;
        }

        void addDay(int name) {
            put(names, days, name);
            days++;
        }

        int nameOfDay(int i) {
            return at(names, i - 1);
        }

        int daysCalled(int name) {
            int many = 0;
            for (int i = 1; i <= days; i++) {
                if (nameOfDay(i) == name) many++;
            }
            return many;
        }

        int latestCalled(int name) {
            for (int i = days; i >= 1; i--) {
                if (nameOfDay(i) == name) return i;
            }
            return 0;
        }

        boolean isBarred(int name, int bar) {
            for (int back = 1; back <= bar && back <= days; back++) {
                if (at(names, days - back) == name) return true;
            }
            return false;
        }

        int purse(int b) {
            return at(purses, b);
        }

        void addToPurse(int b, int coins) {
            put(purses, b, at(purses, b) + coins);
        }

        int howIs(int d) {
            return at(debts, d);
        }

        void setHowIs(int d, int how) {
            put(debts, d, how);
        }

        int defaults() {
            int many = 0;
            for (int d = 0; d < debts.length; d++) {
                if (debts[d] == DEFAULT) many++;
            }
            return many;
        }
    }

    /** The bids of one night: the place behind all bidders' is one's own, who so is the last of those alike. */
    private static final class Bids {
        private static final int OWN = MOST_BIDDERS;

        private final int[] names = new int[MOST_BIDDERS + 1];
        private final int[] coins = new int[MOST_BIDDERS + 1];

        void callFor(Town town, Moment moment) {
            for (int place = 0; place < coins.length; place++) coins[place] = 0;
            for (int b = 0; b < town.bidders; b++) {
                for (int name = 0; name < NAMES; name++) raise(town, moment, b, name);
            }
        }

        private void raise(Town town, Moment moment, int b, int name) {
            int worth = town.worth(b, name);
            if (worth <= at(coins, b) || worth > moment.purse(b)) return;
            if (moment.isBarred(name, town.bar)) return;
            set(b, name, worth);
        }

        void set(int place, int name, int amount) {
            put(names, place, name);
            put(coins, place, amount);
        }

        void silenceLower(int a, int b) {
            int low = Math.min(a, b);
            int high = Math.max(a, b);
            put(coins, at(coins, low) < at(coins, high) ? low : high, 0);
        }

        int winner() {
            int best = NONE;
            int most = 0;
            for (int place = 0; place < coins.length; place++) {
                if (coins[place] > most) {
                    most = coins[place];
                    best = place;
                }
            }
            return best;
        }

        int highest() {
            return at(coins, winner());
        }

        int nameOf(int place) {
            return at(names, place);
        }

        /** With no other bid the next highest is 0, so that 1 is paid. */
        int price(int winner) {
            int next = 0;
            for (int place = 0; place < coins.length; place++) {
                if (place != winner) next = Math.max(next, coins[place]);
            }
            return Math.min(at(coins, winner), next + 1);
        }
    }

    /** Nights as they go, of whatever moment, now or to come. */
    private static final class Nights {
        private final Town town;
        private final Bids bids = new Bids();
        private int winner, price;

        Nights(Town town) {
            this.town = town;
        }

        /** The bidders call their bids; what else may be bid, or not, comes ahead of the close. */
        void open(Moment moment) {
            bids.callFor(town, moment);
        }

        void bidOwn(Moment moment, int name, int coins) {
            if (isName(name) && !moment.isBarred(name, town.bar)) bids.set(Bids.OWN, name, coins);
        }

        void silenceLower(int a, int b) {
            bids.silenceLower(a, b);
        }

        int highestBid() {
            return bids.highest();
        }

        /** The name that is sold, or SKIPPED. */
        int close(Moment moment) {
            winner = bids.winner();
            if (winner == NONE) {
                moment.skipped++;
                return SKIPPED;
            }
            price = bids.price(winner);
            if (winner == Bids.OWN) {
                moment.spent += price;
            } else {
                moment.addToPurse(winner, -price);
            }
            int name = bids.nameOf(winner);
            callDay(moment, name);
            return name;
        }

        int paidLast(int a, int b) {
            return winner == a || winner == b ? price : 0;
        }

        void callDay(Moment moment, int name) {
            moment.addDay(name);
            for (int b = 0; b < town.bidders; b++) moment.addToPurse(b, town.ofBidder(b, Town.WAGE));
            int kth = moment.daysCalled(name);
            for (int d = 0; d < town.debts; d++) {
                boolean due = town.ofDebt(d, Town.NAME) == name && town.ofDebt(d, Town.KTH) == kth;
                if (due && moment.howIs(d) == OPEN) fallDue(moment, d);
            }
        }

        private void fallDue(Moment moment, int d) {
            int who = town.ofDebt(d, Town.WHO);
            int coins = town.ofDebt(d, Town.COINS);
            if (moment.purse(who) < coins) {
                moment.setHowIs(d, DEFAULT);
                return;
            }
            moment.addToPurse(who, -coins);
            moment.addToPurse(town.ofDebt(d, Town.TO_WHOM), coins);
            moment.setHowIs(d, PAID);
        }
    }

    /** What comes, and what can be bought: all on a moment of its own, so that nothing is changed. */
    private static final class Outlook {
        private final Town town;
        private final Nights nights;
        private final Moment ahead = new Moment();

        Outlook(Town town, Nights nights) {
            this.town = town;
            this.nights = nights;
        }

        Moment after(Moment now, int n) {
            ahead.copyFrom(now);
            for (int night = 1; night <= n; night++) {
                nights.open(ahead);
                nights.close(ahead);
            }
            return ahead;
        }

        int nightDue(Moment now, int d, int n) {
            if (now.howIs(d) != OPEN) return 0;
            ahead.copyFrom(now);
            for (int night = 1; night <= n; night++) {
                nights.open(ahead);
                nights.close(ahead);
                if (ahead.howIs(d) != OPEN) return night;
            }
            return NONE;
        }

        int cheapest(Moment now, int name, int n, int what) {
            int bestNight = NONE;
            int bestCost = NONE;
            ahead.copyFrom(now);
            for (int night = 1; night <= n; night++) {
                boolean barred = ahead.isBarred(name, town.bar);
                nights.open(ahead);
                int bid = nights.highestBid() + 1;
                int cost = nights.close(ahead) == name ? 0 : bid;
                if (barred || cost > MOST_COINS) continue;
                if (bestNight == NONE || cost < bestCost) {
                    bestNight = night;
                    bestCost = cost;
                }
            }
            return what == 0 ? bestNight : bestCost;
        }

        int holding(Moment now, int name, int n, int what) {
            int held = 0;
            ahead.copyFrom(now);
            for (int night = 1; night <= n; night++) {
                nights.open(ahead);
                if (!ahead.isBarred(name, town.bar)) {
                    int bid = nights.highestBid() + 1;
                    if (bid > MOST_COINS) return NONE;
                    nights.bidOwn(ahead, name, bid);
                    held++;
                }
                nights.close(ahead);
            }
            return what == 0 ? ahead.spent - now.spent : held;
        }

        int paidBy(Moment now, int a, int b, int n, boolean asRing) {
            int paid = 0;
            ahead.copyFrom(now);
            for (int night = 1; night <= n; night++) {
                nights.open(ahead);
                if (asRing) nights.silenceLower(a, b);
                nights.close(ahead);
                paid += nights.paidLast(a, b);
            }
            return paid;
        }
    }

    /** What was FOUND, and what a bidder's worth may be by it. */
    private static final class Finds {
        private final Town town;
        private final Nights nights;
        private final Moment ahead = new Moment();
        private final int[] whichNight = new int[MOST_FOUND];
        private final int[] names = new int[MOST_FOUND];
        private int many;

        Finds(Town town, Nights nights) {
            this.town = town;
            this.nights = nights;
        }

        void add(int night, int name) {
            put(whichNight, many, night);
            put(names, many, name);
            many++;
        }

        int empty() {
            int before = many;
            many = 0;
            return before;
        }

        /** Whether all that was found would be so, were the name worth so much to the bidder. */
        boolean agreeWith(Moment now, int b, int name, int worth) {
            int real = town.worth(b, name);
            boolean agree = true;
            town.setWorth(b, name, worth);
            ahead.copyFrom(now);
            for (int night = 1; night <= NIGHTS_FOUND && agree; night++) {
                nights.open(ahead);
                int sold = nights.close(ahead);
                agree = agreeOn(night, sold == SKIPPED ? -1 : sold);
            }
            town.setWorth(b, name, real);
            return agree;
        }

        private boolean agreeOn(int night, int name) {
            for (int f = 0; f < many; f++) {
                if (at(whichNight, f) == night && at(names, f) != name) return false;
            }
            return true;
        }
    }

    /** The PLAN. */
    private static final class Agenda {
        private final Nights nights;
        private final Moment ahead = new Moment();
        private final int[] names = new int[MOST_PLAN];
        private int many;

        Agenda(Nights nights) {
            this.nights = nights;
        }

        void add(int name) {
            put(names, many, name);
            many++;
        }

        int empty() {
            int before = many;
            many = 0;
            return before;
        }

        Moment carriedOut(Moment now) {
            ahead.copyFrom(now);
            for (int i = 0; i < many; i++) {
                int name = at(names, i);
                if (name >= 0) nights.callDay(ahead, name);
            }
            return ahead;
        }
    }

    /** What one may go back to: the latest moments, going round in one row of them, and the IMAGES. */
    private static final class Past {
        private final Moment[] steps = new Moment[MOST_UNDONE];
        private final Moment[] images = new Moment[IMAGES];
        private final boolean[] kept = new boolean[IMAGES];
        private int next, known;

        Past() {
            for (int i = 0; i < steps.length; i++) steps[i] = new Moment();
            for (int i = 0; i < images.length; i++) images[i] = new Moment();
        }

        void loseAll() {
            known = 0;
            for (int i = 0; i < kept.length; i++) kept[i] = false;
        }

        void remember(Moment now) {
            Moment step = momentAt(steps, next);
            if (step == null) return;
            step.copyFrom(now);
            next = (next + 1) % MOST_UNDONE;
            known = Math.min(MOST_UNDONE, known + 1);
        }

        boolean stepBack(Moment now) {
            if (known == 0) return false;
            int latest = (next + MOST_UNDONE - 1) % MOST_UNDONE;
            Moment step = momentAt(steps, latest);
            if (step == null) return false;
            now.copyFrom(step);
            next = latest;
            known--;
            return true;
        }

        void keepImage(int image, Moment now) {
            Moment place = momentAt(images, image);
            if (place == null || image >= kept.length) return;
            place.copyFrom(now);
            kept[image] = true;
        }

        boolean backTo(int image, Moment now) {
            Moment place = momentAt(images, image);
            if (place == null || image >= kept.length || !kept[image]) return false;
            now.copyFrom(place);
            known = 0;
            return true;
        }

        private static Moment momentAt(Moment[] row, int place) {
            return place >= 0 && place < row.length ? row[place] : null;
        }
    }

    /** RATES: each kind a body of its own, which asks the body of the kind above it and leaves its mark in THE TRACE. */
    private static final class Rates {
        private final Town town;
        private final Moment now;
        private long track;

        Rates(Town town, Moment now) {
            this.town = town;
            this.now = now;
        }

        int asIf(int kind, int b) {
            switch (kind) {
                case 0: return asBidder(b);
                case 1: return asBrewer(b);
                case 2: return asLover(b);
                case 3: return asRival(b);
                case 4: return asPoet(b);
                case 5: return asHeir(b);
                default: return NO;
            }
        }

        private int asBidder(int b) {
            track += 1;
            return now.purse(b);
        }

        private int asBrewer(int b) {
            track += 10;
            return asBidder(b) + town.ofBidder(b, Town.WAGE);
        }

        private int asLover(int b) {
            track += 100;
            return asBidder(b) - owedYet(b);
        }

        private int asRival(int b) {
            track += 1000;
            return 2 * asBrewer(b);
        }

        private int asPoet(int b) {
            track += 10000;
            return asLover(b) + b;
        }

        private int asHeir(int b) {
            track += 100000;
            return asBidder(b) + now.days;
        }

        private int owedYet(int b) {
            int sum = 0;
            for (int d = 0; d < town.debts; d++) {
                if (town.ofDebt(d, Town.WHO) == b && now.howIs(d) == OPEN) sum += town.ofDebt(d, Town.COINS);
            }
            return sum;
        }
    }
}
