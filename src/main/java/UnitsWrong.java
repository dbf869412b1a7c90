import java.util.Arrays;

/**
 * A house of funds whose prices were wrong. The document's promises are kept by the public methods;
 * the classes inside hold what was told and go through the DAYS.
 */
public final class UnitsWrong {
    public static final int NONE = -1;

    private static final int ABSENT = -2147483648;
    private static final int MOST = 2000000000;

    private static final int DAYS = 260;
    private static final int FUNDS = 4;
    private static final int HOLDERS = 16;
    private static final int PAPERS = 8;
    private static final int CURRENCIES = 3;
    private static final int MOST_DAYS_AT_ONCE = 40;

    private static final int FIRST_FUND = 20;
    private static final int WHOS = 24;
    private static final int THE_HOUSE = 40;
    private static final int THE_POOR = 41;
    private static final int PARTIES = 42;

    private static final int PRICE = 0;
    private static final int RATE = 1;
    private static final int DIVIDEND = 2;
    private static final int SPLIT = 3;

    private static final int MOST_PRICE = 10000000;
    private static final int FIRST_PRICE = 10000;
    private static final int MOST_PIECES = 1000000;
    private static final int MOST_TRADED = 10000;
    private static final int MOST_PENCE = 100000000;
    private static final int MOST_DEALT = 10000;
    private static final int MOST_BEYOND = 5000;

    private static final int RULES = 12;
    private static final int FEE = 0;
    private static final int SWING = 1;
    private static final int OVER = 2;
    private static final int CUT = 3;
    private static final int BEYOND = 4;
    private static final int LEAST = 5;
    private static final int LEAST_TO = 6;
    private static final int GAINS = 7;
    private static final int GONE = 8;
    private static final int GONE_TO = 9;
    private static final int TAX = 10;
    private static final int REPORT = 11;

    private static final int TO_FUND = 0;
    private static final int TO_HOUSE = 1;
    private static final int TO_POOR = 2;

    private static final int IS_DUE = 0;
    private static final int IS_SMALL = 1;
    private static final int IS_HELD = 2;
    private static final int IS_OF_GONE = 3;

    private final State state;
    private final Text text;
    private final Course course;
    private final Claims claims;
    private final Settlement settlement;
    private final Audits audits;

    public UnitsWrong() {
        state = new State();
        text = new Text();
        course = new Course();
        claims = new Claims();
        settlement = new Settlement();
        audits = new Audits();
    }

    public boolean paper(int paper, int currency) {
        if (paper < 0 || paper >= PAPERS || currency < 0 || currency >= CURRENCIES || state.now != 0) {
            return false;
        }
        state.currency[paper] = currency;
        return true;
    }

    public int fund(int cash) {
        if (cash < 0 || cash > MOST_PENCE || state.funds >= FUNDS || state.now != 0) {
            return NONE;
        }
        int number = state.funds;
        state.startCash[number] = cash;
        state.funds = number + 1;
        state.changes++;
        return number;
    }

    public int holder(int zone) {
        if (zone < -11 || zone > 12 || state.holders >= HOLDERS) {
            return NONE;
        }
        int number = state.holders;
        state.zone[number] = zone;
        state.holders = number + 1;
        return number;
    }

    public boolean holiday(int day) {
        if (day <= state.now || day >= DAYS || state.holidays[day]) {
            return false;
        }
        state.holidays[day] = true;
        state.holidaysTold++;
        return true;
    }

    public boolean open(int day) {
        return state.isOpen(day);
    }

    public int tell(int subject, int number, int day, int value) {
        if (!canBeTold(subject, number, day, value) || state.now >= DAYS) {
            return NONE;
        }
        if (state.tellings.add(subject, number, day, value, state.now) == NONE) {
            return NONE;
        }
        state.changes++;
        return state.tellings.byDay.size;
    }

    public int known(int subject, int number, int day, int k) {
        if (!isSubject(subject, number) || !isDay(day) || !isDay(k)) {
            return ABSENT;
        }
        int telling = state.tellings.latest(subject, number, day, k);
        if (telling != NONE) {
            return state.tellings.value[telling];
        }
        return subject == PRICE || subject == DIVIDEND ? 0 : 1000;
    }

    public boolean stale(int subject, int number, int day, int k) {
        if (!isSubject(subject, number) || !isDay(day) || !isDay(k)) {
            return false;
        }
        // A DIVIDEND or SPLIT counts on its own DAY alone, so that it is never found for another one.
        int telling = state.tellings.latest(subject, number, day, k);
        return telling != NONE && state.tellings.byDay.day[telling] != day;
    }

    public int trade(int fund, int paper, int day, int pieces, int pence) {
        if (!state.isFund(fund) || paper < 0 || paper >= PAPERS || day < 0 || day > state.now || state.now >= DAYS) {
            return NONE;
        }
        if (!isWithin(pieces, MOST_TRADED) || !isWithin(pence, MOST_PENCE)) {
            return NONE;
        }
        int number = state.trades.add(fund, paper, day, state.now);
        if (number != NONE) {
            state.trades.pieces[number] = pieces;
            state.trades.pence[number] = pence;
            state.changes++;
        }
        return number;
    }

    public int deal(int who, int fund, int n, int hour) {
        if (!state.isWho(who, fund) || hour < 0 || hour > 23 || n == 0 || !isWithin(n, MOST_DEALT)) {
            return NONE;
        }
        int day = state.dealingDay(who, fund, hour);
        return day == NONE ? NONE : state.deals.add(who, fund, n, day);
    }

    public int feed(int a, int b, int c, int d, int e) {
        if (text.length + 20 > Text.LIMIT) {
            return NONE;
        }
        text.append(a);
        text.append(b);
        text.append(c);
        text.append(d);
        text.append(e);
        return text.length;
    }

    public boolean end(int n) {
        if (n < 0 || n > text.length) {
            return false;
        }
        text.length = n;
        return true;
    }

    public int fault() {
        return text.read();
    }

    public int take() {
        if (state.now >= DAYS || state.laws.size >= Laws.LIMIT || text.read() != NONE) {
            return NONE;
        }
        text.length = 0;
        return state.laws.add(text.told, state.now);
    }

    public int rule(int fund, int day, int what) {
        if (!state.isFund(fund) || !isDay(day) || what < 0 || what >= RULES) {
            return ABSENT;
        }
        return state.laws.value(fund, day, what);
    }

    public int go(int n) {
        if (n < 0 || n > MOST_DAYS_AT_ONCE) {
            return NONE;
        }
        int until = Math.min(state.now + n, DAYS);
        if (state.now < until) {
            course.bookUntil(state, until);
        }
        return state.now;
    }

    public int booked(int fund, int day) {
        return isBooked(fund, day) ? state.bookedPrice[slot(fund, day)] : NONE;
    }

    public int right(int fund, int day, int k) {
        if (!isBooked(fund, day) || k < day || k > state.latestKnown()) {
            return NONE;
        }
        course.walkTo(state, k);
        return course.rightPrice[slot(fund, day)];
    }

    public int fee(int fund, int day, int what) {
        if (!isBooked(fund, day) || what < 0 || what > 1) {
            return NONE;
        }
        if (what == 0) {
            return told(state.bookedFee[slot(fund, day)]);
        }
        course.walkTo(state, state.latestKnown());
        return told(course.rightFee[slot(fund, day)]);
    }

    public int error(int fund, int day, int k) {
        if (!isBooked(fund, day) || k < day || k > state.latestKnown()) {
            return ABSENT;
        }
        course.walkTo(state, k);
        return course.errorOn(state, slot(fund, day));
    }

    public int errors(int fund) {
        if (!state.isFund(fund)) {
            return NONE;
        }
        int k = state.latestKnown();
        course.walkTo(state, k);
        int beyond = state.laws.value(fund, k, BEYOND);
        int counted = 0;
        for (int day = 0; day <= state.lastOver(k); day++) {
            if (state.isOpen(day) && course.errorCounts(state, slot(fund, day), beyond)) {
                counted++;
            }
        }
        return counted;
    }

    public int units(int who, int fund) {
        return state.isWho(who, fund) ? state.deals.held[who * FUNDS + fund] : NONE;
    }

    public int claim(int who, int fund, int k, int what) {
        if (!state.isWho(who, fund) || k < 0 || k > state.latestKnown() || what < 0 || what > 3) {
            return ABSENT;
        }
        course.walkTo(state, k);
        claims.gather(state, course, fund, k);
        switch (what) {
            case 0:
                return told(claims.lost[who]);
            case 1:
                return told(claims.gained[who]);
            case 2:
                return told(claims.sumOf(state, who));
            default:
                return claims.wayOf(state, who);
        }
    }

    public int house(int fund, int k) {
        if (!state.isFund(fund) || k < 0 || k > state.latestKnown()) {
            return ABSENT;
        }
        course.walkTo(state, k);
        claims.gather(state, course, fund, k);
        return told(claims.lacking(state, course));
    }

    public int cash(int fund, int what) {
        if (!state.isFund(fund) || what < 0 || what > 1) {
            return ABSENT;
        }
        course.walkTo(state, state.latestKnown());
        return told(what == 0 ? course.bookedCash[fund] : course.rightCash[fund]);
    }

    public int dealt(int deal, int what) {
        Deals deals = state.deals;
        if (deal < 0 || deal >= deals.byDay.size) {
            return ABSENT;
        }
        switch (what) {
            case 0:
                return deals.who[deal];
            case 1:
                return deals.fund[deal];
            case 2:
                return deals.byDay.day[deal];
            case 3:
                return deals.units[deal];
            case 4:
                return told(deals.booked[deal]);
            case 5:
                course.walkTo(state, state.latestKnown());
                return told(deals.right[deal]);
            case 6:
                return told(deals.taxOf(state.laws, deal, deals.booked));
            case 7:
                course.walkTo(state, state.latestKnown());
                return told(deals.taxOf(state.laws, deal, deals.right));
            default:
                return ABSENT;
        }
    }

    public boolean gone(int holder) {
        if (!state.isHolder(holder) || state.goneDay[holder] != NONE) {
            return false;
        }
        state.goneDay[holder] = state.now;
        return true;
    }

    public boolean found(int fund) {
        if (!state.isFund(fund) || state.foundDay[fund] != NONE || state.now >= DAYS) {
            return false;
        }
        state.foundDay[fund] = state.now;
        return true;
    }

    public int due(int fund) {
        if (!state.isFund(fund) || state.foundDay[fund] == NONE) {
            return NONE;
        }
        int day = state.foundDay[fund];
        int left = state.laws.value(fund, day, REPORT);
        for (int step = left; step > 0 && day != NONE; step--) {
            day = state.openBehind(day);
        }
        return day;
    }

    public int audit(int fund, int day, int price) {
        if (!isBooked(fund, day) || price < 0 || price > MOST_PRICE) {
            return NONE;
        }
        return audits.add(fund, day, price);
    }

    public int suspect(int subject, int number, int day, int value) {
        if (!canBeTold(subject, number, day, value)) {
            return NONE;
        }
        audits.searched = false;
        return state.suspects.add(subject, number, day, value, state.now);
    }

    public int forget() {
        int both = audits.size + state.suspects.byDay.size;
        audits.size = 0;
        audits.searched = false;
        state.suspects.byDay.size = 0;
        return both;
    }

    public int explain() {
        audits.search(state, course);
        return audits.least;
    }

    public int rivals() {
        audits.search(state, course);
        return audits.rivals;
    }

    public int alarm(int fund, int n) {
        if (!state.isFund(fund) || n < 0 || n > 10000) {
            return NONE;
        }
        int ahead = NONE;
        for (int day = 0; day < state.now && day < DAYS; day++) {
            if (!state.isOpen(day)) {
                continue;
            }
            int price = state.bookedPrice[slot(fund, day)];
            if (ahead != NONE && 10000L * Math.abs(price - ahead) > (long) n * ahead) {
                return day;
            }
            ahead = price;
        }
        return NONE;
    }

    public int beside(int fund, int beyond) {
        if (!state.isFund(fund) || beyond < 0 || beyond > MOST_BEYOND) {
            return ABSENT;
        }
        int k = state.latestKnown();
        course.walkTo(state, k);
        claims.gatherBeyond(state, course, fund, k, beyond);
        return told(claims.sumAboveZero(state));
    }

    public int balance(int fund, int party) {
        if (!state.isFund(fund) || !state.isParty(party)) {
            return ABSENT;
        }
        settle(fund);
        return told(claims.balances[party]);
    }

    public int payments(int fund) {
        if (!state.isFund(fund)) {
            return NONE;
        }
        settle(fund);
        return settlement.arrange(claims.balances) ? settlement.size : NONE;
    }

    public int payment(int fund, int k, int what) {
        if (!state.isFund(fund)) {
            return ABSENT;
        }
        settle(fund);
        if (!settlement.arrange(claims.balances) || k < 0 || k >= settlement.size) {
            return ABSENT;
        }
        switch (what) {
            case 0:
                return settlement.payer[k];
            case 1:
                return settlement.getter[k];
            case 2:
                return told(settlement.amount[k]);
            default:
                return ABSENT;
        }
    }

    public int count(int what) {
        if (what >= FIRST_FUND && state.isFund(what - FIRST_FUND)) {
            return state.deals.all[what - FIRST_FUND];
        }
        switch (what) {
            case 0:
                return state.now;
            case 1:
                return state.funds;
            case 2:
                return state.holders;
            case 3:
                return state.tellings.byDay.size;
            case 4:
                return state.trades.byDay.size;
            case 5:
                return state.deals.byDay.size;
            case 6:
                return state.laws.size;
            case 7:
                return text.length;
            case 8:
                return audits.size;
            case 9:
                return state.suspects.byDay.size;
            case 10:
                return state.holidaysTold;
            default:
                return NONE;
        }
    }

    /** Makes BALANCES of all PARTIES for a FUND, AS KNOWN NOW. */
    private void settle(int fund) {
        int k = state.latestKnown();
        course.walkTo(state, k);
        claims.gather(state, course, fund, k);
        claims.weigh(state, course);
    }

    private boolean isBooked(int fund, int day) {
        return state.isFund(fund) && day < state.now && state.isOpen(day);
    }

    private static boolean isDay(int day) {
        return day >= 0 && day < DAYS;
    }

    private static boolean isWithin(int value, int most) {
        return value >= -most && value <= most;
    }

    private static int slot(int fund, int day) {
        return fund * DAYS + day;
    }

    private static int told(long value) {
        return (int) Math.max(-MOST, Math.min(MOST, value));
    }

    private static boolean isSubject(int subject, int number) {
        switch (subject) {
            case PRICE:
            case DIVIDEND:
            case SPLIT:
                return number >= 0 && number < PAPERS;
            case RATE:
                return number >= 1 && number < CURRENCIES;
            default:
                return false;
        }
    }

    private static boolean canBeTold(int subject, int number, int day, int value) {
        if (!isSubject(subject, number) || !isDay(day)) {
            return false;
        }
        switch (subject) {
            case PRICE:
                return value >= 1 && value <= 10000;
            case RATE:
                return value >= 1 && value <= 9999;
            case DIVIDEND:
                return value >= 0 && value <= 1000;
            default:
                return value >= 100 && value <= 10000;
        }
    }

    /** Numbers as they come, from 0 on, each with a DAY; and the same ones in the order of their DAYS. */
    private static final class ByDay {
        final int[] day;
        final int[] order;
        int size;

        ByDay(int limit) {
            day = new int[limit];
            order = new int[limit];
        }

        int add(int onDay) {
            if (size >= day.length) {
                return NONE;
            }
            int number = size;
            int place = number;
            while (place > 0 && day[order[place - 1]] > onDay) {
                order[place] = order[place - 1];
                place--;
            }
            order[place] = number;
            day[number] = onDay;
            size = number + 1;
            return number;
        }
    }

    /** TELLINGS that were made, or SUSPECTS that may be lacking. */
    private static final class Tellings {
        final ByDay byDay;
        final int[] subject;
        final int[] number;
        final int[] value;
        final int[] made;

        Tellings(int limit) {
            byDay = new ByDay(limit);
            subject = new int[limit];
            number = new int[limit];
            value = new int[limit];
            made = new int[limit];
        }

        int add(int ofSubject, int ofNumber, int day, int newValue, int now) {
            int telling = byDay.add(day);
            if (telling != NONE) {
                subject[telling] = ofSubject;
                number[telling] = ofNumber;
                value[telling] = newValue;
                made[telling] = now;
            }
            return telling;
        }

        /** The TELLING that counts on a DAY, AS KNOWN on k. */
        int latest(int ofSubject, int ofNumber, int day, int k) {
            boolean lasts = ofSubject == PRICE || ofSubject == RATE;
            int best = NONE;
            for (int i = 0; i < byDay.size; i++) {
                int telling = byDay.order[i];
                int on = byDay.day[telling];
                boolean counts = on == day || (lasts && on < day);
                if (counts && subject[telling] == ofSubject && number[telling] == ofNumber && made[telling] <= k) {
                    best = telling;
                }
            }
            return best;
        }
    }

    private static final class Trades {
        static final int LIMIT = 120;

        final ByDay byDay = new ByDay(LIMIT);
        final int[] fund = new int[LIMIT];
        final int[] paper = new int[LIMIT];
        final int[] pieces = new int[LIMIT];
        final int[] pence = new int[LIMIT];
        final int[] made = new int[LIMIT];

        int add(int ofFund, int ofPaper, int day, int now) {
            int trade = byDay.add(day);
            if (trade != NONE) {
                fund[trade] = ofFund;
                paper[trade] = ofPaper;
                made[trade] = now;
            }
            return trade;
        }
    }

    /** DEALS with their UNITS and coins, and who has how many UNITS by them. */
    private static final class Deals {
        static final int LIMIT = 200;

        final ByDay byDay = new ByDay(LIMIT);
        final int[] who = new int[LIMIT];
        final int[] fund = new int[LIMIT];
        final int[] wish = new int[LIMIT];
        final int[] units = new int[LIMIT];
        final long[] booked = new long[LIMIT];
        final long[] right = new long[LIMIT];
        final int[] held = new int[WHOS * FUNDS];
        final int[] all = new int[FUNDS];

        int add(int ofWho, int ofFund, int n, int day) {
            int deal = byDay.add(day);
            if (deal != NONE) {
                who[deal] = ofWho;
                fund[deal] = ofFund;
                wish[deal] = n;
            }
            return deal;
        }

        /** Settles how many UNITS a DEAL is of: nobody sells more than they have then. */
        void fill(int deal) {
            int place = who[deal] * FUNDS + fund[deal];
            int filled = Math.max(wish[deal], -held[place]);
            units[deal] = filled;
            held[place] += filled;
            all[fund[deal]] += filled;
        }

        static long coinsOf(int filled, int price) {
            return filled > 0 ? ((long) filled * price + 99) / 100 : -(long) filled * price / 100;
        }

        long taxOf(Laws laws, int deal, long[] coins) {
            if (units[deal] >= 0) {
                return 0;
            }
            long cost = 0;
            long has = 0;
            for (int i = 0; i < byDay.size; i++) {
                int other = byDay.order[i];
                if (who[other] != who[deal] || fund[other] != fund[deal]) {
                    continue;
                }
                if (units[other] > 0) {
                    cost += coins[other];
                }
                long share = units[other] < 0 && has > 0 ? cost * -units[other] / has : 0;
                if (other == deal) {
                    long gain = Math.max(0, coins[deal] - share);
                    return gain * laws.value(fund[deal], byDay.day[deal], TAX) / 100;
                }
                cost -= share;
                has += units[other];
            }
            return 0;
        }
    }

    /** LAWS that were TAKEN, each with all rules for all FUNDS. */
    private static final class Laws {
        static final int LIMIT = 6;

        private static final int[] WITHOUT = {0, 0, 10000, 24, 0, 0, TO_FUND, NONE, 300, TO_FUND, 0, 0};

        final int[] taken = new int[LIMIT];
        final int[] rules = new int[LIMIT * FUNDS * RULES];
        int size;

        /** Takes what a TEXT tells: rows of rules for each FUND alone, and behind these one for all. */
        int add(int[] texts, int now) {
            if (size >= LIMIT) {
                return NONE;
            }
            int law = size;
            for (int fund = 0; fund < FUNDS; fund++) {
                for (int what = 0; what < RULES; what++) {
                    int value = texts[fund * RULES + what];
                    if (value == ABSENT) {
                        value = texts[FUNDS * RULES + what];
                    }
                    if (value == ABSENT) {
                        value = WITHOUT[what];
                    }
                    rules[(law * FUNDS + fund) * RULES + what] = value;
                }
            }
            taken[law] = now;
            size = law + 1;
            return law;
        }

        int value(int fund, int day, int what) {
            int law = size - 1;
            while (law >= 0 && taken[law] > day) {
                law--;
            }
            return law < 0 ? WITHOUT[what] : rules[(law * FUNDS + fund) * RULES + what];
        }
    }

    /** The bytes of the TEXT, and what they tell. */
    private static final class Text {
        static final int LIMIT = 600;

        private static final int LINE_END = 0;
        private static final int WORD = 1;
        private static final int NUMBER = 2;
        private static final int COLON = 3;
        private static final int NOTHING = 4;
        private static final int FOR_ALL = 4;
        private static final int TOO_MUCH = 1000000;

        final int[] bytes = new int[LIMIT];
        final int[] told = new int[(FUNDS + 1) * RULES];
        int length;

        private int kind;
        private int start;
        private int behind;
        private int number;
        private int faultAt;

        void append(int four) {
            for (int shift = 24; shift >= 0 && length < LIMIT; shift -= 8) {
                bytes[length] = four >> shift & 255;
                length++;
            }
        }

        /** Reads all LINES into the rows of rules: the FAULT, or NONE. */
        int read() {
            Arrays.fill(told, ABSENT);
            behind = 0;
            faultAt = NONE;
            for (int line = 0; line <= length && behind <= length && faultAt == NONE; line++) {
                readLine();
            }
            return faultAt;
        }

        private void readLine() {
            int scope = FOR_ALL;
            next();
            if (isWord("fund")) {
                scope = wantNumber(FUNDS - 1);
                next();
                want(kind == COLON);
                next();
            } else if (kind == LINE_END) {
                behind = start + 1;
                return;
            }
            if (faultAt == NONE) {
                readRule(scope * RULES);
                next();
                want(kind == LINE_END);
                behind = start + 1;
            }
        }

        private void readRule(int row) {
            if (isWord("fee")) {
                told[row + FEE] = wantNumber(5000);
            } else if (isWord("swing")) {
                told[row + SWING] = wantNumber(1000);
                wantWord("over");
                told[row + OVER] = wantNumber(10000);
            } else if (isWord("cut")) {
                told[row + CUT] = wantNumber(24);
            } else if (isWord("error")) {
                wantWord("beyond");
                told[row + BEYOND] = wantNumber(MOST_BEYOND);
            } else if (isWord("least")) {
                told[row + LEAST] = wantNumber(100000);
                wantWord("to");
                told[row + LEAST_TO] = wantParty();
            } else if (isWord("gains")) {
                told[row + GAINS] = wantGains();
            } else if (isWord("gone")) {
                told[row + GONE] = wantNumber(300);
                wantWord("days");
                wantWord("to");
                told[row + GONE_TO] = wantParty();
            } else if (isWord("tax")) {
                told[row + TAX] = wantNumber(90);
            } else if (isWord("report")) {
                told[row + REPORT] = wantNumber(60);
                wantWord("days");
            } else {
                want(false);
            }
        }

        private int wantGains() {
            next();
            if (isWord("stay")) {
                return NONE;
            }
            want(isWord("back"));
            next();
            want(isWord("beyond"));
            return wantNumber(100000);
        }

        private int wantParty() {
            next();
            if (isWord("house")) {
                return TO_HOUSE;
            }
            if (isWord("poor")) {
                return TO_POOR;
            }
            want(isWord("fund"));
            return TO_FUND;
        }

        private void wantWord(String word) {
            next();
            want(isWord(word));
        }

        private int wantNumber(int most) {
            next();
            boolean fits = kind == NUMBER && number <= most;
            want(fits);
            return fits ? number : 0;
        }

        private void want(boolean stands) {
            if (!stands && faultAt == NONE) {
                faultAt = start;
            }
        }

        /** Looks at the next TOKEN; a LINE's end stays the next one, so that nothing is read across it. */
        private void next() {
            int place = behind;
            while (place < length && bytes[place] == ' ') {
                place++;
            }
            start = place;
            kind = kindAt(place);
            number = 0;
            if (kind == COLON) {
                place++;
            }
            if (kind == WORD || kind == NUMBER) {
                while (place < length && kindAt(place) == kind) {
                    if (kind == NUMBER) {
                        number = Math.min(number * 10 + bytes[place] - '0', TOO_MUCH);
                    }
                    place++;
                }
            }
            behind = place;
        }

        private int kindAt(int place) {
            if (place >= length || bytes[place] == 10) {
                return LINE_END;
            }
            int sign = bytes[place];
            if (sign >= 'a' && sign <= 'z') {
                return WORD;
            }
            if (sign >= '0' && sign <= '9') {
                return NUMBER;
            }
            return sign == ':' ? COLON : NOTHING;
        }

        private boolean isWord(String word) {
            if (kind != WORD || behind - start != word.length()) {
                return false;
            }
            for (int i = 0; i < word.length(); i++) {
                if (bytes[start + i] != word.charAt(i)) {
                    return false;
                }
            }
            return true;
        }
    }

    /** What was told and BOOKED. */
    private static final class State {
        final long[] startCash = new long[FUNDS];
        final int[] foundDay = new int[FUNDS];
        final int[] zone = new int[HOLDERS];
        final int[] goneDay = new int[HOLDERS];
        final int[] currency = new int[PAPERS];
        final boolean[] holidays = new boolean[DAYS];
        final Tellings tellings = new Tellings(400);
        final Tellings suspects = new Tellings(7);
        final Trades trades = new Trades();
        final Deals deals = new Deals();
        final Laws laws = new Laws();
        final int[] bookedPrice = new int[FUNDS * DAYS];
        final long[] bookedFee = new long[FUNDS * DAYS];
        int now;
        int funds;
        int holders;
        int holidaysTold;
        /** Grows with all that RIGHT prices hang on, so that a walk is known to be out of date. */
        int changes;

        State() {
            Arrays.fill(foundDay, NONE);
            Arrays.fill(goneDay, NONE);
        }

        boolean isFund(int fund) {
            return fund >= 0 && fund < funds;
        }

        boolean isHolder(int holder) {
            return holder >= 0 && holder < holders;
        }

        boolean isWho(int who, int fund) {
            if (!isFund(fund)) {
                return false;
            }
            return isHolder(who) || (who >= FIRST_FUND && isFund(who - FIRST_FUND) && fund < who - FIRST_FUND);
        }

        boolean isParty(int party) {
            if (party == THE_HOUSE || party == THE_POOR || isHolder(party)) {
                return true;
            }
            return party >= FIRST_FUND && isFund(party - FIRST_FUND);
        }

        boolean isOpen(int day) {
            return isDay(day) && day % 7 < 5 && !holidays[day];
        }

        int openBehind(int day) {
            for (int later = day + 1; later < DAYS; later++) {
                if (isOpen(later)) {
                    return later;
                }
            }
            return NONE;
        }

        int dealingDay(int who, int fund, int hour) {
            int ownZone = isHolder(who) ? zone[who] : 0;
            if (isOpen(now) && hour - ownZone < laws.value(fund, now, CUT)) {
                return now;
            }
            return openBehind(now);
        }

        int latestKnown() {
            return Math.min(now, DAYS - 1);
        }

        int lastOver(int k) {
            return Math.min(k, now - 1);
        }

        boolean isGoneOn(int who, int k) {
            return isHolder(who) && goneDay[who] != NONE && goneDay[who] <= k;
        }
    }

    /**
     * Goes through the DAYS, once for both: RIGHT ones, and CASH by BOOKED DEALS and FEES.
     * Pieces and DIVIDENDS are the same in both, as they hang on nothing but what is KNOWN.
     */
    private static final class Course {
        final long[] bookedCash = new long[FUNDS];
        final long[] rightCash = new long[FUNDS];
        final int[] rightPrice = new int[FUNDS * DAYS];
        final long[] rightFee = new long[FUNDS * DAYS];

        private final int[] pieces = new int[FUNDS * PAPERS];
        private final int[] held = new int[FUNDS * FUNDS];
        private final int[] all = new int[FUNDS];
        private final int[] price = new int[PAPERS];
        private final int[] rate = new int[CURRENCIES];
        private final int[] dividend = new int[PAPERS];
        private final int[] split = new int[PAPERS];
        private boolean withDividends;
        private boolean withSplits;
        private int nextTelling;
        private int nextTrade;
        private int firstDeal;
        private int behindDeals;
        private int walkedTo = NONE;
        private int walkedChanges;

        int errorOn(State s, int slot) {
            return s.bookedPrice[slot] - rightPrice[slot];
        }

        boolean errorCounts(State s, int slot, int beyond) {
            return 10000L * Math.abs(errorOn(s, slot)) > (long) beyond * rightPrice[slot];
        }

        /** Makes RIGHT prices, FEES and coins, and CASH of both kinds, AS KNOWN on k. */
        void walkTo(State s, int k) {
            if (walkedTo == k && walkedChanges == s.changes) {
                return;
            }
            start(s);
            int last = s.lastOver(k);
            for (int day = 0; day <= last; day++) {
                passDay(s, day, k, 0);
            }
            walkedTo = k;
            walkedChanges = s.changes;
        }

        /** Ends DAYS till NOW is that one. Nothing is told meanwhile, so one walk serves them all. */
        void bookUntil(State s, int until) {
            walkTo(s, s.now);
            for (int day = s.now; day < until; day++) {
                openDay(s, day, day, 0);
                for (int fund = 0; fund < s.funds && s.isOpen(day); fund++) {
                    int slot = slot(fund, day);
                    fillDeals(s.deals, fund);
                    makePrice(s, fund, day, bookedCash, s.bookedPrice, s.bookedFee);
                    countCoins(s.deals, fund, s.bookedPrice[slot], s.deals.booked);
                    bookedCash[fund] -= s.bookedFee[slot];
                    passDeals(s.deals, fund);
                }
            }
            s.now = until;
            s.changes++;
        }

        void start(State s) {
            System.arraycopy(s.startCash, 0, bookedCash, 0, FUNDS);
            System.arraycopy(s.startCash, 0, rightCash, 0, FUNDS);
            Arrays.fill(pieces, 0);
            Arrays.fill(held, 0);
            Arrays.fill(all, 0);
            Arrays.fill(price, 0);
            Arrays.fill(rate, 1000);
            withDividends = true;
            withSplits = true;
            nextTelling = 0;
            nextTrade = 0;
            behindDeals = 0;
            // What is walked from here on may be with SUSPECTS, or be BOOKED: walkTo alone says what it made.
            walkedTo = NONE;
        }

        void passDay(State s, int day, int k, int heap) {
            openDay(s, day, k, heap);
            for (int fund = 0; fund < s.funds && s.isOpen(day); fund++) {
                int slot = slot(fund, day);
                makePrice(s, fund, day, rightCash, rightPrice, rightFee);
                countCoins(s.deals, fund, rightPrice[slot], s.deals.right);
                rightCash[fund] -= rightFee[slot];
                bookedCash[fund] -= s.bookedFee[slot];
                passDeals(s.deals, fund);
            }
        }

        /** What comes ahead of the ASSETS, and on DAYS too that aren't OPEN. */
        private void openDay(State s, int day, int k, int heap) {
            learn(s, day, k);
            if (heap != 0) {
                suspectOn(s.suspects, day, heap);
            }
            if (withSplits) {
                splitPieces(s.funds);
            }
            if (withDividends) {
                payDividends(s);
            }
            passTrades(s.trades, day, k);
            findDeals(s.deals.byDay, day);
        }

        private void learn(State s, int day, int k) {
            if (withDividends) {
                Arrays.fill(dividend, 0);
            }
            if (withSplits) {
                Arrays.fill(split, 1000);
            }
            withDividends = false;
            withSplits = false;
            Tellings tellings = s.tellings;
            ByDay byDay = tellings.byDay;
            while (nextTelling < byDay.size && byDay.day[byDay.order[nextTelling]] == day) {
                int telling = byDay.order[nextTelling];
                if (tellings.made[telling] <= k) {
                    hear(tellings, telling);
                }
                nextTelling++;
            }
        }

        private void suspectOn(Tellings suspects, int day, int heap) {
            for (int suspect = 0; suspect < suspects.byDay.size; suspect++) {
                if ((heap >> suspect & 1) != 0 && suspects.byDay.day[suspect] == day) {
                    hear(suspects, suspect);
                }
            }
        }

        private void hear(Tellings tellings, int telling) {
            int number = tellings.number[telling];
            int value = tellings.value[telling];
            switch (tellings.subject[telling]) {
                case PRICE:
                    price[number] = value;
                    break;
                case RATE:
                    rate[number] = value;
                    break;
                case DIVIDEND:
                    dividend[number] = value;
                    withDividends = true;
                    break;
                default:
                    split[number] = value;
                    withSplits = true;
                    break;
            }
        }

        private void splitPieces(int funds) {
            for (int fund = 0; fund < funds; fund++) {
                for (int paper = 0; paper < PAPERS; paper++) {
                    int place = fund * PAPERS + paper;
                    pieces[place] = bounded((long) pieces[place] * split[paper] / 1000);
                }
            }
        }

        private void payDividends(State s) {
            for (int fund = 0; fund < s.funds; fund++) {
                for (int paper = 0; paper < PAPERS; paper++) {
                    long each = (long) dividend[paper] * rate[s.currency[paper]];
                    long paid = pieces[fund * PAPERS + paper] * each / 1000;
                    bookedCash[fund] += paid;
                    rightCash[fund] += paid;
                }
            }
        }

        private void passTrades(Trades trades, int day, int k) {
            ByDay byDay = trades.byDay;
            while (nextTrade < byDay.size && byDay.day[byDay.order[nextTrade]] == day) {
                int trade = byDay.order[nextTrade];
                if (trades.made[trade] <= k) {
                    int fund = trades.fund[trade];
                    int place = fund * PAPERS + trades.paper[trade];
                    pieces[place] = bounded((long) pieces[place] + trades.pieces[trade]);
                    bookedCash[fund] += trades.pence[trade];
                    rightCash[fund] += trades.pence[trade];
                }
                nextTrade++;
            }
        }

        private static int bounded(long pieces) {
            return (int) Math.max(-MOST_PIECES, Math.min(MOST_PIECES, pieces));
        }

        private void findDeals(ByDay byDay, int day) {
            firstDeal = behindDeals;
            while (behindDeals < byDay.size && byDay.day[byDay.order[behindDeals]] == day) {
                behindDeals++;
            }
        }

        private long assetsOf(State s, int fund, int day, long cash, int[] prices) {
            long assets = cash;
            for (int paper = 0; paper < PAPERS; paper++) {
                int count = pieces[fund * PAPERS + paper];
                if (count != 0) {
                    assets += (long) count * price[paper] * rate[s.currency[paper]] / 1000;
                }
            }
            for (int lesser = 0; lesser < fund; lesser++) {
                assets += (long) held[fund * FUNDS + lesser] * prices[slot(lesser, day)] / 100;
            }
            return assets;
        }

        private void makePrice(State s, int fund, int day, long[] cash, int[] prices, long[] fees) {
            long assets = assetsOf(s, fund, day, cash[fund], prices);
            long fee = Math.max(0, assets) * s.laws.value(fund, day, FEE) / 1000000;
            long made = all[fund] > 0 ? (assets - fee) * 100 / all[fund] : FIRST_PRICE;
            made = Math.max(0, Math.min(MOST_PRICE, made));
            long flow = flowOf(s.deals, fund);
            if (10000 * Math.abs(flow) > (long) s.laws.value(fund, day, OVER) * all[fund]) {
                int swing = s.laws.value(fund, day, SWING);
                made = Math.min(MOST_PRICE, made * (flow < 0 ? 10000 - swing : 10000 + swing) / 10000);
            }
            fees[slot(fund, day)] = fee;
            prices[slot(fund, day)] = (int) made;
        }

        private long flowOf(Deals deals, int fund) {
            long flow = 0;
            for (int i = firstDeal; i < behindDeals; i++) {
                int deal = deals.byDay.order[i];
                if (deals.fund[deal] == fund) {
                    flow += deals.units[deal];
                }
            }
            return flow;
        }

        private void fillDeals(Deals deals, int fund) {
            for (int i = firstDeal; i < behindDeals; i++) {
                int deal = deals.byDay.order[i];
                if (deals.fund[deal] == fund) {
                    deals.fill(deal);
                }
            }
        }

        private void countCoins(Deals deals, int fund, int at, long[] coins) {
            for (int i = firstDeal; i < behindDeals; i++) {
                int deal = deals.byDay.order[i];
                if (deals.fund[deal] == fund) {
                    coins[deal] = Deals.coinsOf(deals.units[deal], at);
                }
            }
        }

        /** Brings UNITS and coins of a FUND's DEALS to where they go. While a DAY is BOOKED, RIGHT CASH is idle. */
        private void passDeals(Deals deals, int fund) {
            for (int i = firstDeal; i < behindDeals; i++) {
                int deal = deals.byDay.order[i];
                if (deals.fund[deal] != fund) {
                    continue;
                }
                int units = deals.units[deal];
                long booked = units > 0 ? deals.booked[deal] : -deals.booked[deal];
                long right = units > 0 ? deals.right[deal] : -deals.right[deal];
                bookedCash[fund] += booked;
                rightCash[fund] += right;
                all[fund] += units;
                int feeder = deals.who[deal] - FIRST_FUND;
                if (feeder >= 0) {
                    bookedCash[feeder] -= booked;
                    rightCash[feeder] -= right;
                    held[feeder * FUNDS + fund] += units;
                }
            }
        }
    }

    /** LOST, GAINED and CLAIMS of all by one FUND, AS KNOWN on a DAY up to which the course was walked. */
    private static final class Claims {
        final long[] lost = new long[WHOS];
        final long[] gained = new long[WHOS];
        final long[] balances = new long[PARTIES];

        private int fund;
        private int knownOn;

        void gather(State s, Course c, int ofFund, int k) {
            gatherBeyond(s, c, ofFund, k, s.laws.value(ofFund, k, BEYOND));
        }

        void gatherBeyond(State s, Course c, int ofFund, int k, int beyond) {
            fund = ofFund;
            knownOn = k;
            Arrays.fill(lost, 0);
            Arrays.fill(gained, 0);
            Deals deals = s.deals;
            int last = s.lastOver(k);
            for (int deal = 0; deal < deals.byDay.size; deal++) {
                int day = deals.byDay.day[deal];
                boolean isDone = deals.fund[deal] == fund && day <= last && deals.units[deal] != 0;
                if (isDone && c.errorCounts(s, slot(fund, day), beyond)) {
                    addDeal(deals, deal);
                }
            }
        }

        private void addDeal(Deals deals, int deal) {
            long more = deals.booked[deal] - deals.right[deal];
            long loss = deals.units[deal] > 0 ? more : -more;
            lost[deals.who[deal]] += Math.max(0, loss);
            gained[deals.who[deal]] += Math.max(0, -loss);
        }

        long sumOf(State s, int who) {
            int back = s.laws.value(fund, knownOn, GAINS);
            if (back == NONE) {
                return lost[who];
            }
            long sum = lost[who] - gained[who];
            return sum < 0 && sum >= -back ? 0 : sum;
        }

        /** How a CLAIM is: due (or none), SMALL, HELD, or of who is GONE. */
        int wayOf(State s, int who) {
            long sum = sumOf(s, who);
            if (sum <= 0) {
                return IS_DUE;
            }
            if (sum < s.laws.value(fund, knownOn, LEAST)) {
                return IS_SMALL;
            }
            if (!s.isGoneOn(who, knownOn)) {
                return IS_DUE;
            }
            int since = s.foundDay[fund];
            boolean isOver = since != NONE && knownOn - since >= s.laws.value(fund, knownOn, GONE);
            return isOver ? IS_OF_GONE : IS_HELD;
        }

        /** The PARTY that gets a CLAIM above 0; the FUND, if it stays there. */
        private int getterOf(State s, int who, int way) {
            int self = FIRST_FUND + fund;
            if (way == IS_DUE) {
                return who;
            }
            if (way == IS_HELD) {
                return self;
            }
            int to = s.laws.value(fund, knownOn, way == IS_SMALL ? LEAST_TO : GONE_TO);
            return to == TO_HOUSE ? THE_HOUSE : to == TO_POOR ? THE_POOR : self;
        }

        long sumAboveZero(State s) {
            long sum = 0;
            for (int who = 0; who < WHOS; who++) {
                sum += Math.max(0, sumOf(s, who));
            }
            return sum;
        }

        /** What THE HOUSE owes the FUND. */
        long lacking(State s, Course c) {
            long sum = c.rightCash[fund] - c.bookedCash[fund];
            for (int who = 0; who < WHOS; who++) {
                long own = sumOf(s, who);
                int way = wayOf(s, who);
                boolean isLeftToFund = way != IS_HELD && getterOf(s, who, way) == FIRST_FUND + fund;
                if (!isLeftToFund) {
                    sum += own;
                }
            }
            return sum;
        }

        void weigh(State s, Course c) {
            Arrays.fill(balances, 0);
            for (int who = 0; who < WHOS; who++) {
                give(s, who);
            }
            long sum = lacking(s, c);
            balances[THE_HOUSE] -= sum;
            balances[FIRST_FUND + fund] += sum;
        }

        private void give(State s, int who) {
            long own = sumOf(s, who);
            int getter = getterOf(s, who, wayOf(s, who));
            balances[getter] += own;
            balances[FIRST_FUND + fund] -= own;
        }
    }

    /** The fewest PAYMENTS that bring all BALANCES to 0. */
    private static final class Settlement {
        private static final int LIMIT = 10;
        private static final int WAYS = 1 << LIMIT;

        final int[] payer = new int[LIMIT];
        final int[] getter = new int[LIMIT];
        final long[] amount = new long[LIMIT];
        int size;

        private final int[] party = new int[LIMIT];
        private final long[] owned = new long[LIMIT];
        private final long[] sums = new long[WAYS];
        private final int[] most = new int[WAYS];
        private int parties;

        boolean arrange(long[] balances) {
            size = 0;
            if (!findParties(balances)) {
                return false;
            }
            countHeaps();
            int left = (1 << parties) - 1;
            for (int round = 0; round < LIMIT && left != 0; round++) {
                int heap = firstHeap(left);
                payWithin(heap);
                left &= ~heap;
            }
            return true;
        }

        private boolean findParties(long[] balances) {
            parties = 0;
            for (int number = 0; number < balances.length; number++) {
                if (balances[number] == 0) {
                    continue;
                }
                if (parties >= LIMIT) {
                    return false;
                }
                party[parties] = number;
                owned[parties] = balances[number];
                parties++;
            }
            return true;
        }

        /**
         * Finds for each set of PARTIES how many heaps that sum to 0 it can be put into at most, what
         * is over being left: one more than for the set without one of them, if it sums to 0 itself.
         */
        private void countHeaps() {
            sums[0] = 0;
            most[0] = 0;
            for (int set = 1; set < 1 << parties; set++) {
                int best = 0;
                for (int i = 0; i < parties; i++) {
                    if ((set >> i & 1) != 0) {
                        best = Math.max(best, most[set ^ 1 << i]);
                        sums[set] = sums[set ^ 1 << i] + owned[i];
                    }
                }
                most[set] = sums[set] == 0 ? best + 1 : best;
            }
        }

        private int firstHeap(int left) {
            int lowest = left & -left;
            for (int heap = lowest; heap < left; heap++) {
                boolean isPart = (heap & lowest) != 0 && (heap & ~left) == 0;
                if (isPart && sums[heap] == 0 && most[left ^ heap] + 1 == most[left]) {
                    return heap;
                }
            }
            return left;
        }

        private void payWithin(int heap) {
            long owed = 0;
            int last = NONE;
            for (int i = 0; i < parties; i++) {
                if ((heap >> i & 1) == 0) {
                    continue;
                }
                if (last != NONE && size < LIMIT) {
                    payer[size] = owed > 0 ? party[last] : party[i];
                    getter[size] = owed > 0 ? party[i] : party[last];
                    amount[size] = Math.abs(owed);
                    size++;
                }
                owed -= owned[i];
                last = i;
            }
        }
    }

    /** AUDITS, and which SUSPECTS explain them. */
    private static final class Audits {
        private static final int LIMIT = 8;

        private final int[] fund = new int[LIMIT];
        private final int[] day = new int[LIMIT];
        private final int[] price = new int[LIMIT];
        int size;
        boolean searched;
        int least;
        int rivals;
        private int searchedChanges;

        int add(int ofFund, int onDay, int atPrice) {
            if (size >= LIMIT) {
                return NONE;
            }
            fund[size] = ofFund;
            day[size] = onDay;
            price[size] = atPrice;
            size++;
            searched = false;
            return size;
        }

        void search(State s, Course c) {
            if (searched && searchedChanges == s.changes) {
                return;
            }
            least = NONE;
            rivals = NONE;
            int suspects = s.suspects.byDay.size;
            for (int many = 0; many <= suspects && least == NONE; many++) {
                for (int heap = 0; heap < 1 << suspects; heap++) {
                    if (Integer.bitCount(heap) == many && explains(s, c, heap)) {
                        least = least == NONE ? heap : least;
                        rivals++;
                    }
                }
            }
            searched = true;
            searchedChanges = s.changes;
        }

        private boolean explains(State s, Course c, int heap) {
            int last = NONE;
            for (int i = 0; i < size; i++) {
                last = Math.max(last, day[i]);
            }
            c.start(s);
            for (int on = 0; on <= last; on++) {
                c.passDay(s, on, s.latestKnown(), heap);
                if (!agrees(c, on)) {
                    return false;
                }
            }
            return true;
        }

        private boolean agrees(Course c, int on) {
            for (int i = 0; i < size; i++) {
                if (day[i] == on && c.rightPrice[slot(fund[i], on)] != price[i]) {
                    return false;
                }
            }
            return true;
        }
    }
}
