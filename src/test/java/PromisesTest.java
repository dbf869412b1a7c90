import java.nio.charset.StandardCharsets;

/** Each promise by hand: ordinary inputs, the edges that the document names, and wrong inputs. */
public final class PromisesTest {
    private static final int NONE = UnitsWrong.NONE;
    private static final int ABSENT = Integer.MIN_VALUE;
    private static final int[] NO_NUMBERS = {Integer.MIN_VALUE, -1000, 1000, Integer.MAX_VALUE};

    private static int wrong = 0;
    private static int asked = 0;

    private static void is(int promise, String what, long got, long want) {
        asked++;
        if (got != want) {
            wrong++;
            System.out.println("promise " + promise + ", " + what + ": answered " + got + ", due is " + want);
        }
    }

    private static void is(int promise, String what, boolean got, boolean want) {
        is(promise, what, got ? 1 : 0, want ? 1 : 0);
    }

    public static void main(String[] args) {
        newObject();
        papers();
        funds();
        holders();
        days();
        tellings();
        knowing();
        trades();
        deals();
        texts();
        faults();
        laws();
        going();
        feesAndSwings();
        splitsAndDividends();
        twoTimes();
        lossesAndGains();
        gainsBack();
        smallSums();
        gonePeople();
        taxes();
        taxesOfMany();
        pennies();
        feeders();
        lawsInTime();
        dues();
        auditsAndSuspects();
        alarms();
        heaps();
        manyParties();
        nearestEnds();
        lastDay();
        foundAtTheEnd();
        firstDealIsWrong();
        lateHoliday();
        counts();
        System.out.println(asked + " answers, " + wrong + " of them not as due");
        if (wrong != 0) System.exit(1);
    }

    /** Puts a TEXT in place of what is there. */
    private static void write(UnitsWrong x, String text) {
        x.end(0);
        byte[] bytes = text.getBytes(StandardCharsets.ISO_8859_1);
        for (int i = 0; i < bytes.length; i += 20) {
            int[] v = new int[5];
            for (int j = 0; j < 20; j++) v[j / 4] = v[j / 4] << 8 | (i + j < bytes.length ? bytes[i + j] & 255 : 32);
            x.feed(v[0], v[1], v[2], v[3], v[4]);
        }
        is(13, "end of " + text, x.end(bytes.length), true);
    }

    private static int law(UnitsWrong x, String text) {
        write(x, text);
        return x.take();
    }

    private static void newObject() {
        UnitsWrong x = new UnitsWrong();
        for (int what = 0; what <= 10; what++) is(1, "count " + what, x.count(what), 0);
        is(1, "no fund", x.count(20), NONE);
        is(1, "no fund's rule", x.rule(0, 0, 0), ABSENT);
        is(1, "no fault", x.fault(), NONE);
        is(1, "nothing to explain", x.explain(), 0);
        is(1, "NONE", UnitsWrong.NONE, -1);
    }

    private static void papers() {
        UnitsWrong x = new UnitsWrong();
        is(2, "paper 0", x.paper(0, 2), true);
        is(2, "paper 0 again", x.paper(0, 1), true);
        is(2, "paper 7", x.paper(7, 0), true);
        is(2, "paper 8", x.paper(8, 0), false);
        is(2, "paper -1", x.paper(-1, 0), false);
        is(2, "currency 3", x.paper(0, 3), false);
        is(2, "currency -1", x.paper(0, -1), false);
        for (int no : NO_NUMBERS) {
            is(2, "paper " + no, x.paper(no, 0), false);
            is(2, "currency " + no, x.paper(0, no), false);
        }
        x.fund(0);
        x.holder(0);
        x.tell(0, 0, 0, 100);
        x.tell(1, 1, 0, 1500);
        x.tell(1, 2, 0, 3000);
        x.trade(0, 0, 0, 100, 0);
        x.deal(0, 0, 100, 0);
        x.go(1);
        is(2, "told too late", x.paper(0, 2), false);
        x.go(1);
        // 10000 of CASH, and 100 pieces at 100 times 1.5.
        is(2, "price by the rate", x.booked(0, 1), 25000);
    }

    private static void funds() {
        UnitsWrong x = new UnitsWrong();
        is(3, "too little", x.fund(-1), NONE);
        is(3, "too much", x.fund(100000001), NONE);
        is(3, "least", x.fund(0), 0);
        is(3, "most", x.fund(100000000), 1);
        is(3, "third", x.fund(5), 2);
        is(3, "fourth", x.fund(6), 3);
        is(3, "fifth", x.fund(6), NONE);
        is(3, "cash of one", x.cash(1, 0), 100000000);
        is(3, "cash of the last", x.cash(3, 1), 6);
        UnitsWrong y = new UnitsWrong();
        y.go(1);
        is(3, "behind 0", y.fund(5), NONE);
        is(3, "none came", y.count(1), 0);
    }

    private static void holders() {
        UnitsWrong x = new UnitsWrong();
        is(4, "zone -12", x.holder(-12), NONE);
        is(4, "zone 13", x.holder(13), NONE);
        is(4, "zone -11", x.holder(-11), 0);
        is(4, "zone 12", x.holder(12), 1);
        x.go(3);
        for (int i = 2; i < 16; i++) is(4, "holder " + i, x.holder(0), i);
        is(4, "holder 16", x.holder(0), NONE);
        is(4, "all", x.count(2), 16);
    }

    private static void days() {
        UnitsWrong x = new UnitsWrong();
        for (int d = 0; d < 260; d++) is(6, "day " + d, x.open(d), d % 7 < 5);
        is(6, "day -1", x.open(-1), false);
        is(6, "day -3", x.open(-3), false);
        is(6, "day 260", x.open(260), false);
        for (int no : NO_NUMBERS) is(6, "day " + no, x.open(no), false);
        is(5, "now", x.holiday(0), false);
        is(5, "next", x.holiday(1), true);
        is(6, "a holiday", x.open(1), false);
        is(5, "again", x.holiday(1), false);
        is(5, "day 5", x.holiday(5), true);
        is(5, "last", x.holiday(259), true);
        is(6, "the last", x.open(259), false);
        is(5, "behind the last", x.holiday(260), false);
        for (int no : NO_NUMBERS) is(5, "day " + no, x.holiday(no), false);
        is(5, "holidays", x.count(10), 3);
        x.go(8);
        is(5, "now", x.holiday(8), false);
        is(5, "over", x.holiday(7), false);
        is(5, "next", x.holiday(9), true);
    }

    private static void tellings() {
        UnitsWrong x = new UnitsWrong();
        int[][] good = {{0, 0, 0, 1}, {0, 7, 259, 10000}, {1, 1, 0, 1}, {1, 2, 259, 9999}, {2, 0, 0, 0},
            {2, 7, 5, 1000}, {3, 0, 0, 100}, {3, 7, 5, 10000}};
        int[][] bad = {{-1, 0, 0, 5}, {4, 0, 0, 500}, {0, -1, 0, 5}, {0, 8, 0, 5}, {1, 0, 0, 5}, {1, 3, 0, 5}, {2, 8, 0, 5},
            {3, -1, 0, 500}, {0, 0, -1, 5}, {0, 0, 260, 5}, {0, 0, 0, 0}, {0, 0, 0, 10001}, {1, 1, 0, 0}, {1, 1, 0, 10000},
            {2, 0, 0, -1}, {2, 0, 0, 1001}, {3, 0, 0, 99}, {3, 0, 0, 10001}};
        for (int i = 0; i < good.length; i++) {
            int[] t = good[i];
            is(7, "good " + i, x.tell(t[0], t[1], t[2], t[3]), i + 1);
            is(8, "good " + i, x.known(t[0], t[1], t[2], 0), t[3]);
        }
        for (int i = 0; i < bad.length; i++) {
            int[] t = bad[i];
            is(7, "bad " + i, x.tell(t[0], t[1], t[2], t[3]), NONE);
            is(32, "bad " + i, x.suspect(t[0], t[1], t[2], t[3]), NONE);
        }
        is(7, "how many", x.count(3), good.length);
        for (int i = good.length; i < 400; i++) is(7, "telling " + i, x.tell(0, 1, i % 260, 1 + i), i + 1);
        is(7, "the 401st", x.tell(0, 1, 0, 1), NONE);
        is(7, "unchanged", x.known(0, 1, 0, 0), 261);
        x.fund(0);
        x.holder(0);
        x.trade(0, 1, 0, 1, 0);
        x.deal(0, 0, 100, 9);
        for (int i = 0; i < 7; i++) x.go(40);
        // The last TELLING for DAY 139 is the 400th; for 140 and on the ones of the first round count.
        is(18, "by the 400th", x.booked(0, 137), 10398);
        is(18, "by the 141st", x.booked(0, 140), 10141);
    }

    private static void knowing() {
        UnitsWrong x = new UnitsWrong();
        is(8, "no price", x.known(0, 0, 5, 5), 0);
        is(8, "no rate", x.known(1, 2, 5, 5), 1000);
        is(8, "no dividend", x.known(2, 0, 5, 5), 0);
        is(8, "no split", x.known(3, 0, 5, 5), 1000);
        is(9, "none told", x.stale(0, 0, 5, 5), false);
        x.tell(0, 0, 3, 100);
        x.tell(0, 0, 6, 150);
        x.tell(1, 1, 3, 1200);
        x.tell(2, 0, 3, 7);
        x.tell(3, 0, 3, 500);
        x.go(2);
        x.tell(0, 0, 3, 90);
        x.tell(0, 0, 1, 80);
        x.tell(2, 0, 3, 8);
        is(8, "ahead of all", x.known(0, 0, 2, 0), 0);
        is(8, "its day, first time", x.known(0, 0, 3, 1), 100);
        is(8, "its day, second time", x.known(0, 0, 3, 2), 90);
        is(8, "day ahead of it, second time", x.known(0, 0, 2, 2), 80);
        is(8, "day behind it", x.known(0, 0, 5, 2), 90);
        is(8, "latest day", x.known(0, 0, 259, 259), 150);
        is(8, "rate behind", x.known(1, 1, 200, 0), 1200);
        is(8, "other rate", x.known(1, 2, 200, 0), 1000);
        is(8, "dividend, first time", x.known(2, 0, 3, 1), 7);
        is(8, "dividend, second time", x.known(2, 0, 3, 2), 8);
        is(8, "dividend another day", x.known(2, 0, 4, 2), 0);
        is(8, "split", x.known(3, 0, 3, 0), 500);
        is(8, "split another day", x.known(3, 0, 2, 9), 1000);
        is(9, "its day", x.stale(0, 0, 3, 2), false);
        is(9, "day behind", x.stale(0, 0, 4, 0), true);
        is(9, "day ahead", x.stale(0, 0, 2, 0), false);
        is(9, "told later", x.stale(0, 0, 2, 2), true);
        is(9, "rate", x.stale(1, 1, 4, 0), true);
        is(9, "dividend", x.stale(2, 0, 4, 2), false);
        is(9, "split", x.stale(3, 0, 4, 2), false);
        int[][] bad = {{-1, 0, 0, 0}, {4, 0, 0, 0}, {0, 8, 9, 9}, {0, -1, 9, 9}, {1, 0, 9, 9}, {1, 3, 9, 9}, {0, 0, -1, 9}, {0, 0, 260, 9},
            {0, 0, 9, -1}, {0, 0, 9, 260}};
        for (int i = 0; i < bad.length; i++) {
            int[] t = bad[i];
            is(8, "bad " + i, x.known(t[0], t[1], t[2], t[3]), ABSENT);
            is(9, "bad " + i, x.stale(t[0], t[1], t[2], t[3]), false);
        }
    }

    private static void trades() {
        UnitsWrong x = new UnitsWrong();
        is(10, "no fund", x.trade(0, 0, 0, 1, 1), NONE);
        x.fund(1000);
        x.fund(0);
        is(10, "first", x.trade(0, 0, 0, 10000, -100000000), 0);
        is(10, "second", x.trade(1, 7, 0, -10000, 100000000), 1);
        is(10, "day 1", x.trade(0, 0, 1, 1, 1), NONE);
        x.go(3);
        is(10, "day 3", x.trade(0, 0, 3, 1, 1), 2);
        is(10, "day 1 late", x.trade(0, 0, 1, 0, 0), 3);
        int[][] bad = {{2, 0, 0, 1, 1}, {-1, 0, 0, 1, 1}, {0, 8, 0, 1, 1}, {0, -1, 0, 1, 1}, {0, 0, -1, 1, 1}, {0, 0, 4, 1, 1},
            {0, 0, 0, 10001, 1}, {0, 0, 0, -10001, 1}, {0, 0, 0, 1, 100000001}, {0, 0, 0, 1, -100000001}};
        for (int i = 0; i < bad.length; i++) {
            int[] t = bad[i];
            is(10, "bad " + i, x.trade(t[0], t[1], t[2], t[3], t[4]), NONE);
        }
        is(10, "how many", x.count(4), 4);
        is(10, "cash", x.cash(0, 1), -99999000);
        for (int i = 4; i < 120; i++) is(10, "trade " + i, x.trade(0, 1, 0, 1, 1), i);
        is(10, "the 121st", x.trade(0, 1, 0, 1, 1), NONE);
        is(10, "cash by them", x.cash(0, 0), -99999000 + 116);
    }

    private static void deals() {
        UnitsWrong x = new UnitsWrong();
        x.fund(0);
        x.fund(0);
        x.holder(0);
        x.holder(12);
        x.holder(-11);
        law(x, "cut 10\nfund 1: cut 0");
        is(11, "ahead of the cut", x.deal(0, 0, 1, 9), 0);
        is(11, "at the cut", x.deal(0, 0, 1, 10), 1);
        is(11, "in the east", x.deal(1, 0, 1, 21), 2);
        is(11, "in the east, late", x.deal(1, 0, 1, 22), 3);
        is(11, "in the west", x.deal(2, 0, 1, 0), 4);
        is(11, "cut of another fund", x.deal(0, 1, 10000, 0), 5);
        is(11, "a feeder", x.deal(21, 0, -10000, 9), 6);
        is(11, "a feeder at the cut", x.deal(21, 0, 1, 10), 7);
        int[] day = {0, 1, 0, 1, 1, 1, 0, 1};
        for (int i = 0; i < day.length; i++) is(27, "day of " + i, x.dealt(i, 2), day[i]);
        int[][] bad = {{3, 0, 1, 9}, {-1, 0, 1, 9}, {20, 0, 1, 9}, {20, 1, 1, 9}, {21, 1, 1, 9}, {22, 0, 1, 9}, {19, 0, 1, 9}, {40, 0, 1, 9},
            {41, 0, 1, 9}, {0, 2, 1, 9}, {0, -1, 1, 9}, {0, 0, 0, 9}, {0, 0, 10001, 9}, {0, 0, -10001, 9}, {0, 0, 1, -1}, {0, 0, 1, 24},
            {0, 0, ABSENT, 9}, {ABSENT, 0, 1, 9}, {Integer.MAX_VALUE, 0, 1, 9}, {0, 0, 1, ABSENT}};
        for (int i = 0; i < bad.length; i++) {
            int[] t = bad[i];
            is(11, "bad " + i, x.deal(t[0], t[1], t[2], t[3]), NONE);
        }
        is(11, "how many", x.count(5), 8);
        x.go(5);
        x.holiday(7);
        is(11, "on no open day", x.deal(0, 0, 1, 0), 8);
        is(11, "its day", x.dealt(8, 2), 8);
        for (int i = 9; i < 200; i++) is(11, "deal " + i, x.deal(0, 0, 1, 1), i);
        is(11, "the 201st", x.deal(0, 0, 1, 1), NONE);
        x.go(4);
        is(27, "the 200th is dealt", x.dealt(199, 3), 1);
        // 2 on the DAYS 0 and 1, and 192 on the DAY 8.
        is(23, "all of them", x.units(0, 0), 194);
        is(41, "units", x.count(20), 198);
    }

    private static void texts() {
        UnitsWrong x = new UnitsWrong();
        is(12, "twenty", x.feed(0x66656520, 0x310a6375, 0x74203132, 0x0a202020, 0x20202020), 20);
        is(14, "no fault", x.fault(), NONE);
        x.fund(0);
        is(15, "taken", x.take(), 0);
        is(16, "fee", x.rule(0, 0, 0), 1);
        is(16, "cut", x.rule(0, 0, 3), 12);
        is(15, "empty then", x.count(7), 0);
        for (int i = 1; i <= 30; i++) is(12, "feed " + i, x.feed(-1, 0, 0, 0, 0), 20 * i);
        is(12, "too much", x.feed(0, 0, 0, 0, 0), NONE);
        is(12, "unchanged", x.count(7), 600);
        is(13, "too many", x.end(601), false);
        is(13, "below 0", x.end(-1), false);
        is(13, "all", x.end(600), true);
        is(13, "less", x.end(581), true);
        is(13, "more again", x.end(582), false);
        is(12, "nearly full", x.feed(0, 0, 0, 0, 0), NONE);
        is(13, "room", x.end(580), true);
        is(12, "full", x.feed(0, 0, 0, 0, 0), 600);
        is(14, "byte 255", x.fault(), 0);
        is(15, "with a fault", x.take(), NONE);
        is(15, "it stays", x.count(7), 600);
        is(13, "nothing", x.end(0), true);
        is(14, "of nothing", x.fault(), NONE);
        for (int i = 1; i < 6; i++) is(15, "law " + i, x.take(), i);
        is(16, "by the empty law", x.rule(0, 0, 0), 0);
        write(x, "fee 5");
        is(15, "the seventh", x.take(), NONE);
        is(15, "the text stays", x.count(7), 5);
    }

    private static void faults() {
        Object[][] all = {{"fee 5000", NONE}, {"fee 5001", 4}, {"fee", 3}, {"fee \n", 4}, {"fee 1 1", 6}, {"fee:", 3}, {"fee a", 4},
            {"fee5", NONE}, {"fee 0005", NONE}, {"fee 99999999999999999999", 4}, {"fee -1", 4}, {" fee  7  ", NONE}, {"\n\n \n", NONE},
            {"fees 5", 0}, {"feez 5", 0}, {"fee/5", 3}, {"fee 5`", 5}, {"fee 5{", 5}, {"afee 5", 0}, {"gut 5", 0}, {"cat 5", 0}, {"cub 5", 0}, {"fee 9", NONE}, {"fee 5;", 5}, {"Fee 5", 0}, {"feE 5", 0}, {"fee 5\tx", 5}, {"5", 0}, {":", 0}, {"fee 5\r\n", 5},
            {"swing 1000 over 10000", NONE}, {"swing 1001 over 1", 6}, {"swing 1 over 10001", 13}, {"swing 1", 7}, {"swing 1 of 2", 8},
            {"cut 24", NONE}, {"cut 25", 4}, {"error beyond 5000", NONE}, {"error beyond 5001", 13}, {"error 5", 6}, {"error", 5},
            {"least 100000 to fund", NONE}, {"least 100001 to fund", 6}, {"least 1 to house", NONE}, {"least 1 to poor", NONE},
            {"least 1 to rich", 11}, {"least 1 to", 10}, {"least 1 fund", 8}, {"least to fund", 6},
            {"gains stay", NONE}, {"gains stay 5", 11}, {"gains back beyond 100000", NONE}, {"gains back beyond 100001", 18},
            {"gains back", 10}, {"gains beyond 5", 6}, {"gains", 5}, {"gains back 5", 11},
            {"gone 300 days to poor", NONE}, {"gone 301 days to poor", 5}, {"gone 5 to poor", 7}, {"gone 5 days poor", 12},
            {"gone 5 days to 5", 15}, {"tax 90", NONE}, {"tax 91", 4}, {"report 60 days", NONE}, {"report 61 days", 7}, {"report 5", 8},
            {"fund 3 : fee 5", NONE}, {"fund 4 : fee 5", 5}, {"fund 0:fee 5", NONE}, {"fund0:fee5", NONE}, {"fund : fee 5", 5},
            {"fund 0 fee 5", 7}, {"fund 0 :", 8}, {"fund 0 :\nfee 5", 8}, {"fund 0 : fund 1 : fee 5", 9}, {"fund", 4}, {"fund 0 : days", 9},
            {"over 5", 0}, {"fee 1\nfee 2\nfee 5001\nfees", 16}, {"fee 5001 x", 4}, {"tax 5\n \n?", 8}, {"house", 0}, {"fee 1:", 5}};
        UnitsWrong x = new UnitsWrong();
        for (Object[] one : all) {
            write(x, (String) one[0]);
            is(14, "of \"" + one[0] + "\"", x.fault(), (Integer) one[1]);
        }
    }

    private static void laws() {
        UnitsWrong x = new UnitsWrong();
        x.fund(0);
        x.fund(0);
        int[] without = {0, 0, 10000, 24, 0, 0, 0, NONE, 300, 0, 0, 0};
        for (int what = 0; what < 12; what++) is(16, "without, " + what, x.rule(1, 0, what), without[what]);
        x.go(2);
        law(x, "fund 1: fee 7\nfee 1\nfee 2\nswing 3 over 4\ncut 5\nerror beyond 6\nleast 8 to poor\ngains back beyond 9\n"
            + "gone 10 days to house\ntax 11\nreport 12 days\nfund 1: gains stay\nfund 3: tax 1\nfund 1: least 3 to house\nfund 1: least 4 to fund");
        int[] zero = {2, 3, 4, 5, 6, 8, 2, 9, 10, 1, 11, 12};
        int[] one = {7, 3, 4, 5, 6, 4, 0, NONE, 10, 1, 11, 12};
        for (int what = 0; what < 12; what++) {
            is(16, "ahead, " + what, x.rule(0, 1, what), without[what]);
            is(16, "fund 0, " + what, x.rule(0, 2, what), zero[what]);
            is(16, "fund 1, " + what, x.rule(1, 259, what), one[what]);
        }
        x.go(1);
        law(x, "tax 20");
        is(16, "day 2", x.rule(0, 2, 10), 11);
        is(16, "day 3", x.rule(0, 3, 10), 20);
        is(16, "in place of all", x.rule(0, 3, 3), 24);
        for (int no : NO_NUMBERS) {
            is(16, "fund " + no, x.rule(no, 0, 0), ABSENT);
            is(16, "day " + no, x.rule(0, no, 0), ABSENT);
            is(16, "what " + no, x.rule(0, 0, no), ABSENT);
        }
        is(16, "fund 2", x.rule(2, 0, 0), ABSENT);
        is(16, "day 260", x.rule(0, 260, 0), ABSENT);
        is(16, "day -1", x.rule(0, -1, 0), ABSENT);
        is(16, "what -1", x.rule(0, 0, -1), ABSENT);
        is(16, "what 12", x.rule(0, 0, 12), ABSENT);
    }

    private static void going() {
        UnitsWrong x = new UnitsWrong();
        is(17, "none", x.go(0), 0);
        is(17, "below", x.go(-1), NONE);
        is(17, "above", x.go(41), NONE);
        for (int no : NO_NUMBERS) is(17, "go " + no, x.go(no), NONE);
        is(17, "one", x.go(1), 1);
        is(17, "forty", x.go(40), 41);
        for (int i = 2; i <= 6; i++) is(17, "forty more", x.go(40), Math.min(260, 40 * i + 1));
        is(17, "to the end", x.go(40), 260);
        is(17, "behind it", x.go(40), 260);
        is(17, "none behind it", x.go(0), 260);
    }

    private static void feesAndSwings() {
        UnitsWrong x = new UnitsWrong();
        x.fund(100000);
        x.holder(0);
        law(x, "fee 1000\nswing 100 over 5000\n");
        x.tell(0, 0, 0, 100);
        x.trade(0, 0, 0, 500, -50000);
        x.deal(0, 0, 1000, 9);
        is(18, "not over", x.booked(0, 0), NONE);
        x.go(1);
        // ASSETS 100000, no UNITS: 10000 swung up by 1 of 100.
        is(18, "first", x.booked(0, 0), 10100);
        is(20, "first", x.fee(0, 0, 0), 100);
        is(20, "first, right", x.fee(0, 0, 1), 100);
        is(27, "first", x.dealt(0, 4), 101000);
        is(26, "first", x.cash(0, 0), 150900);
        x.deal(0, 0, -400, 9);
        x.go(1);
        // (200900 - 200) / 1000; 400 of 1000 is not over one half.
        is(18, "second", x.booked(0, 1), 20070);
        is(20, "second", x.fee(0, 1, 0), 200);
        is(27, "second", x.dealt(1, 4), 80280);
        is(26, "second", x.cash(0, 0), 70420);
        x.deal(0, 0, -500, 9);
        x.go(1);
        // (120420 - 120) / 600 is 200.50, swung down to 198.49.
        is(18, "third", x.booked(0, 2), 19849);
        is(27, "third", x.dealt(2, 4), 99245);
        is(26, "third", x.cash(0, 0), -28945);
        is(26, "third, right", x.cash(0, 1), -28945);
        x.deal(0, 0, 1, 9);
        x.deal(0, 0, -1, 9);
        x.go(1);
        // ASSETS 21055, FEE 21: 210.34; a begun PENNY more is paid, and less is got. FLOW is 0.
        is(18, "fourth", x.booked(0, 3), 21034);
        is(27, "bought", x.dealt(3, 4), 211);
        is(27, "sold", x.dealt(4, 4), 210);
        is(27, "sold units", x.dealt(4, 3), -1);
        x.trade(0, 1, 4, 0, -30000);
        x.go(1);
        // ASSETS below 0: no FEE, and the price is 0.
        is(18, "below 0", x.booked(0, 4), 0);
        is(20, "below 0", x.fee(0, 4, 0), 0);
        is(20, "what 2", x.fee(0, 0, 2), NONE);
        is(20, "what -1", x.fee(0, 0, -1), NONE);
        is(20, "no fund", x.fee(1, 0, 0), NONE);
        is(20, "not over", x.fee(0, 7, 0), NONE);
        x.go(5);
        is(18, "not open", x.booked(0, 5), NONE);
        is(20, "not open", x.fee(0, 5, 0), NONE);
        is(21, "not open", x.error(0, 5, 6), ABSENT);
        is(19, "not open", x.right(0, 5, 6), NONE);
        is(18, "no fund", x.booked(1, 0), NONE);
        for (int no : NO_NUMBERS) {
            is(18, "fund " + no, x.booked(no, 0), NONE);
            is(18, "day " + no, x.booked(0, no), NONE);
        }
        edgeOfSwing();
    }

    private static void edgeOfSwing() {
        for (int n = 49; n <= 51; n++) {
            UnitsWrong x = new UnitsWrong();
            x.fund(0);
            x.holder(0);
            x.deal(0, 0, 100, 9);
            x.go(1);
            law(x, "swing 1000 over 5000");
            x.deal(0, 0, n, 9);
            x.go(1);
            is(18, "swung by " + n, x.booked(0, 1), n > 50 ? 11000 : 10000);
        }
        UnitsWrong x = new UnitsWrong();
        x.fund(0);
        x.holder(0);
        x.holder(0);
        x.deal(0, 0, 100, 9);
        x.go(1);
        law(x, "swing 1000 over 5000");
        x.deal(0, 0, -1000, 9);
        x.deal(1, 0, 49, 9);
        x.go(1);
        // 100 go and 49 come: 51 of 100.
        is(18, "as much as is dealt", x.booked(0, 1), 9000);
        is(23, "all are sold", x.units(0, 0), 0);
        is(23, "bought", x.units(1, 0), 49);
        law(x, "swing 1000 over 0");
        x.trade(0, 0, 2, 0, 100000000);
        x.deal(1, 0, 1, 9);
        x.go(1);
        is(18, "never above the most", x.booked(0, 2), 10000000);
    }

    private static void splitsAndDividends() {
        UnitsWrong x = new UnitsWrong();
        x.fund(0);
        x.holder(0);
        x.paper(1, 2);
        x.tell(0, 0, 0, 10);
        x.tell(0, 1, 0, 100);
        x.tell(1, 2, 0, 1999);
        x.trade(0, 0, 0, -7, 0);
        x.trade(0, 1, 0, 3, 0);
        x.deal(0, 0, 1, 9);
        x.tell(3, 0, 5, 500);
        x.tell(2, 0, 5, 11);
        x.tell(2, 1, 5, 1);
        x.tell(3, 1, 6, 1500);
        x.go(1);
        is(26, "bought one", x.cash(0, 0), 100);
        x.go(1);
        // 100 - 70 + 599 (3 * 100 * 1.999 is 599.7).
        is(18, "worth", x.booked(0, 1), 62900);
        x.go(4);
        // -7 by half is -3: -33; 3 * 1 * 1.999 is 5. Both on a DAY that isn't OPEN.
        is(26, "dividends", x.cash(0, 0), 72);
        x.go(2);
        // 3 by one and a half is 4: 72 - 30 + 799 (799.6).
        is(18, "worth behind splits", x.booked(0, 7), 84100);
        x.tell(3, 0, 8, 10000);
        for (int i = 0; i < 10; i++) x.trade(0, 2, 8, 10000, 0);
        x.go(1);
        x.tell(3, 2, 9, 10000);
        x.tell(0, 2, 9, 1);
        x.go(1);
        // 72 - 300 + 799 + 1000000.
        is(18, "bounded by a split", x.booked(0, 9), 10000000);
        x.tell(3, 2, 10, 10000);
        x.trade(0, 2, 10, 10000, 0);
        x.trade(0, 2, 10, -10000, 0);
        x.trade(0, 3, 10, 0, -990000);
        x.go(1);
        // Bounded at a million, so the trade of 10000 is lost and the other is not: 990000 pieces.
        is(18, "bounded by a trade", x.booked(0, 10), 57100);
    }

    private static void twoTimes() {
        UnitsWrong x = wrongHouse();
        is(18, "day 1", x.booked(0, 1), 20000);
        is(18, "day 2", x.booked(0, 2), 20000);
        is(19, "day 0", x.right(0, 0, 3), 10000);
        is(19, "day 1 at once", x.right(0, 1, 1), 20000);
        is(19, "day 1 a day later", x.right(0, 1, 2), 20000);
        is(19, "day 1 now", x.right(0, 1, 3), 18000);
        is(19, "day 2 now", x.right(0, 2, 3), 18000);
        is(19, "k ahead of the day", x.right(0, 1, 0), NONE);
        is(19, "k behind now", x.right(0, 1, 4), NONE);
        is(19, "not over", x.right(0, 3, 3), NONE);
        is(19, "no fund", x.right(1, 1, 3), NONE);
        is(21, "day 1 at once", x.error(0, 1, 1), 0);
        is(21, "day 1 now", x.error(0, 1, 3), 2000);
        is(21, "day 2 now", x.error(0, 2, 3), 2000);
        is(21, "k ahead", x.error(0, 1, 0), ABSENT);
        is(21, "k behind now", x.error(0, 1, 4), ABSENT);
        is(21, "not over", x.error(0, 3, 3), ABSENT);
        is(21, "no fund", x.error(1, 0, 3), ABSENT);
        is(22, "days", x.errors(0), 2);
        is(22, "no fund", x.errors(1), NONE);
        is(22, "no fund -1", x.errors(-1), NONE);
        is(27, "right coins", x.dealt(1, 5), 1800);
        is(27, "right coins of the sale", x.dealt(2, 5), 3600);
        is(26, "booked cash", x.cash(0, 0), 8000);
        is(26, "right cash", x.cash(0, 1), 8200);
        is(26, "what 2", x.cash(0, 2), ABSENT);
        is(26, "what -1", x.cash(0, -1), ABSENT);
        is(26, "no fund", x.cash(1, 0), ABSENT);
        x.trade(0, 0, 1, 0, 1100);
        // A late TRADE too: DAY 1 19100 / 100, DAY 2 (13010 + 8000) / 110.
        is(19, "late trade, day 1", x.right(0, 1, 3), 19100);
        is(19, "late trade, day 2", x.right(0, 2, 3), 19100);
        is(19, "late trade, ahead of it", x.right(0, 1, 2), 20000);
        x.go(1);
        // BOOKED by all KNOWN on 3: CASH 8000 and 1100, pieces 8000, by 90 UNITS.
        is(18, "day 3", x.booked(0, 3), 19000);
    }

    /**
     * HOLDER 0 buys 100 UNITS at 100.00 on DAY 0, HOLDER 1 buys 10 on DAY 1 and HOLDER 0 sells 20 on DAY 2, both at
     * 200.00, which should have been 180.00, as is told on DAY 3 (NOW).
     */
    private static UnitsWrong wrongHouse() {
        UnitsWrong x = new UnitsWrong();
        x.fund(10000);
        x.holder(0);
        x.holder(0);
        x.tell(0, 0, 0, 100);
        x.trade(0, 0, 0, 100, -10000);
        x.deal(0, 0, 100, 9);
        x.go(1);
        x.deal(1, 0, 10, 9);
        x.go(1);
        x.deal(0, 0, -20, 9);
        x.go(1);
        x.tell(0, 0, 1, 80);
        return x;
    }

    private static void claim(UnitsWrong x, int who, int k, int lost, int gained, int sum, int way) {
        int[] want = {lost, gained, sum, way};
        for (int what = 0; what < 4; what++) is(24, "of " + who + " on " + k + ", " + what, x.claim(who, 0, k, what), want[what]);
    }

    private static void pays(UnitsWrong x, int fund, int... all) {
        is(39, "payments", x.payments(fund), all.length / 3);
        for (int i = 0; i < all.length; i++) is(40, "payment " + i / 3 + ", " + i % 3, x.payment(fund, i / 3, i % 3), all[i]);
        is(40, "behind the last", x.payment(fund, all.length / 3, 0), ABSENT);
        is(40, "ahead of the first", x.payment(fund, -1, 0), ABSENT);
        is(40, "what 3", x.payment(fund, 0, 3), ABSENT);
        is(40, "what -1", x.payment(fund, 0, -1), ABSENT);
    }

    private static void owned(UnitsWrong x, int fund, int... partiesAndSums) {
        for (int i = 0; i < partiesAndSums.length; i += 2) {
            is(38, "of " + partiesAndSums[i], x.balance(fund, partiesAndSums[i]), partiesAndSums[i + 1]);
        }
    }

    private static void lossesAndGains() {
        UnitsWrong x = wrongHouse();
        claim(x, 0, 3, 0, 400, 0, 0);
        claim(x, 1, 3, 200, 0, 200, 0);
        claim(x, 1, 2, 0, 0, 0, 0);
        is(25, "now", x.house(0, 3), 400);
        is(25, "ahead", x.house(0, 2), 0);
        is(25, "on day 0", x.house(0, 0), 0);
        owned(x, 0, 0, 0, 1, 200, 20, 200, 40, -400, 41, 0);
        pays(x, 0, 20, 1, 200, 40, 20, 400);
        is(37, "beside 0", x.beside(0, 0), 200);
        is(37, "beside 1111", x.beside(0, 1111), 200);
        is(37, "beside 1112", x.beside(0, 1112), 0);
        is(37, "beside 5000", x.beside(0, 5000), 0);
        is(37, "beside 5001", x.beside(0, 5001), ABSENT);
        is(37, "beside -1", x.beside(0, -1), ABSENT);
        is(37, "no fund", x.beside(1, 0), ABSENT);
        law(x, "error beyond 1111");
        is(22, "just beyond", x.errors(0), 2);
        law(x, "error beyond 1112");
        is(22, "not beyond", x.errors(0), 0);
        claim(x, 1, 3, 0, 0, 0, 0);
        is(25, "not beyond", x.house(0, 3), 200);
        int[][] bad = {{2, 0, 3, 0}, {-1, 0, 3, 0}, {20, 0, 3, 0}, {40, 0, 3, 0}, {0, 1, 3, 0}, {0, -1, 3, 0}, {0, 0, -1, 0}, {0, 0, 4, 0}, {0, 0, 3, -1},
            {0, 0, 3, 4}};
        for (int i = 0; i < bad.length; i++) {
            int[] t = bad[i];
            is(24, "bad " + i, x.claim(t[0], t[1], t[2], t[3]), ABSENT);
        }
        is(25, "no fund", x.house(1, 3), ABSENT);
        is(25, "k -1", x.house(0, -1), ABSENT);
        is(25, "k behind now", x.house(0, 4), ABSENT);
        is(38, "no fund", x.balance(1, 0), ABSENT);
        int[] noParty = {-1, 2, 16, 19, 21, 24, 39, 42, ABSENT};
        for (int no : noParty) is(38, "party " + no, x.balance(0, no), ABSENT);
        is(39, "no fund", x.payments(1), NONE);
        is(40, "no fund", x.payment(1, 0, 0), ABSENT);
    }

    private static void gainsBack() {
        UnitsWrong x = wrongHouse();
        law(x, "gains back beyond 399");
        claim(x, 0, 3, 0, 400, -400, 0);
        claim(x, 1, 3, 200, 0, 200, 0);
        is(25, "gains back", x.house(0, 3), 0);
        owned(x, 0, 0, -400, 1, 200, 20, 200, 40, 0, 41, 0);
        pays(x, 0, 0, 1, 400, 1, 20, 200);
        law(x, "gains back beyond 400");
        claim(x, 0, 3, 0, 400, 0, 0);
        is(25, "beyond 400", x.house(0, 3), 400);
        is(37, "above 0 alone", x.beside(0, 0), 200);
    }

    private static void smallSums() {
        UnitsWrong x = wrongHouse();
        law(x, "gains back beyond 0\nleast 200 to poor");
        claim(x, 1, 3, 200, 0, 200, 0);
        law(x, "gains back beyond 0\nleast 201 to poor");
        claim(x, 1, 3, 200, 0, 200, 1);
        claim(x, 0, 3, 0, 400, -400, 0);
        is(25, "to the poor", x.house(0, 3), 0);
        owned(x, 0, 0, -400, 1, 0, 20, 200, 40, 0, 41, 200);
        pays(x, 0, 0, 20, 400, 20, 41, 200);
        is(37, "small ones too", x.beside(0, 0), 200);
        law(x, "gains back beyond 0\nleast 201 to house");
        is(25, "to the house", x.house(0, 3), 0);
        owned(x, 0, 0, -400, 1, 0, 20, 200, 40, 200, 41, 0);
        law(x, "gains back beyond 0\nleast 201 to fund");
        is(25, "to the fund", x.house(0, 3), -200);
        owned(x, 0, 0, -400, 1, 0, 20, 200, 40, 200, 41, 0);
        is(28, "small ahead of gone", x.gone(1), true);
        claim(x, 1, 3, 200, 0, 200, 1);
    }

    private static void gonePeople() {
        UnitsWrong x = wrongHouse();
        law(x, "gone 2 days to house");
        is(28, "no holder", x.gone(2), false);
        is(28, "a fund", x.gone(20), false);
        is(28, "-1", x.gone(-1), false);
        is(28, "gone", x.gone(1), true);
        is(28, "again", x.gone(1), false);
        claim(x, 1, 3, 200, 0, 200, 2);
        is(25, "held", x.house(0, 3), 400);
        owned(x, 0, 1, 0, 20, 400, 40, -400);
        is(29, "no fund", x.found(1), false);
        is(29, "found", x.found(0), true);
        is(29, "again", x.found(0), false);
        claim(x, 1, 3, 200, 0, 200, 2);
        x.go(2);
        claim(x, 1, 4, 200, 0, 200, 2);
        claim(x, 1, 5, 200, 0, 200, 3);
        claim(x, 1, 2, 0, 0, 0, 0);
        is(25, "to the house", x.house(0, 5), 400);
        owned(x, 0, 1, 0, 20, 200, 40, -200);
        pays(x, 0, 40, 20, 200);
        law(x, "gone 2 days to fund");
        is(25, "to the fund", x.house(0, 5), 200);
        owned(x, 0, 1, 0, 20, 200, 40, -200);
        law(x, "gone 2 days to poor\nfund 0: gains back beyond 5");
        owned(x, 0, 0, -400, 1, 0, 20, 200, 40, 0, 41, 200);
        x.gone(0);
        claim(x, 0, 5, 0, 400, -400, 0);
        UnitsWrong y = wrongHouse();
        y.go(1);
        y.gone(1);
        claim(y, 1, 3, 200, 0, 200, 0);
        claim(y, 1, 4, 200, 0, 200, 2);
    }

    private static void taxes() {
        UnitsWrong x = new UnitsWrong();
        x.fund(10000);
        x.holder(0);
        x.tell(0, 0, 0, 100);
        x.trade(0, 0, 0, 100, -10000);
        x.deal(0, 0, 100, 9);
        x.go(1);
        x.deal(0, 0, -21, 9);
        x.go(1);
        law(x, "tax 10");
        x.deal(0, 0, -33, 9);
        x.deal(0, 0, 4, 9);
        x.deal(0, 0, -5, 23);
        is(27, "not yet", x.dealt(4, 6), 0);
        x.go(1);
        is(27, "a purchase", x.dealt(0, 6), 0);
        is(27, "no tax then", x.dealt(1, 6), 0);
        // All at 200.00. Cost 10000 less 2100 is 7900 for 79; 33 of them 3300; 6600 - 3300 is 3300.
        is(27, "sold for", x.dealt(2, 4), 6600);
        is(27, "second sale", x.dealt(2, 6), 330);
        // Cost 4600 for 46, and 800 for 4: 5 of 50 cost 540; 1000 - 540 is 460.
        is(27, "third sale", x.dealt(4, 6), 46);
        x.tell(0, 0, 2, 20);
        // By RIGHT, DAY 2: CASH 10000 - 4200, and 2000, by 79: 98.73.
        is(19, "right", x.right(0, 2, 3), 9873);
        x.tell(0, 0, 1, 20);
        // DAY 1: 12000 by 100: 120.00, 2520 for 21; DAY 2: 10000 - 2520 + 2000 by 79: 120.00.
        is(19, "right on 1", x.right(0, 1, 3), 12000);
        is(19, "right on 2", x.right(0, 2, 3), 12000);
        is(27, "right coins", x.dealt(2, 5), 3960);
        // 3960 - 3300 is 660.
        is(27, "right tax", x.dealt(2, 7), 66);
        // 4 cost 480: 5080 for 50, 508 for 5; 600 - 508 is 92.
        is(27, "right tax of the third", x.dealt(4, 7), 9);
        is(27, "what 8", x.dealt(0, 8), ABSENT);
        is(27, "what -1", x.dealt(0, -1), ABSENT);
        is(27, "no deal", x.dealt(5, 0), ABSENT);
        is(27, "deal -1", x.dealt(-1, 0), ABSENT);
        x.tell(0, 0, 3, 1);
        x.deal(0, 0, -9, 9);
        x.trade(0, 1, 3, 0, -9000);
        x.go(1);
        is(27, "sold with a loss", x.dealt(5, 6), 0);
    }

    private static void taxesOfMany() {
        UnitsWrong x = new UnitsWrong();
        x.fund(0);
        x.fund(0);
        x.holder(0);
        x.holder(0);
        law(x, "tax 90\nfund 1: tax 0");
        x.deal(0, 0, 1, 9);
        x.deal(1, 0, 3, 9);
        x.deal(0, 1, 5, 9);
        x.go(1);
        x.trade(0, 0, 1, 0, 400);
        x.trade(1, 0, 1, 0, 500);
        x.deal(1, 0, -1, 9);
        x.deal(0, 0, -1, 9);
        x.deal(0, 0, -1, 9);
        x.deal(0, 1, -5, 9);
        x.go(1);
        // At 200.00 what cost 100 each.
        is(27, "of three", x.dealt(3, 6), 90);
        is(27, "all of it", x.dealt(4, 6), 90);
        is(27, "none left", x.dealt(5, 6), 0);
        is(27, "none dealt", x.dealt(5, 3), 0);
        is(27, "of another fund", x.dealt(6, 6), 0);
        is(27, "by right", x.dealt(4, 7), 90);
        x.deal(1, 0, -2, 9);
        x.trade(0, 0, 2, 0, -199);
        x.go(1);
        // 2 UNITS for 201 that cost 200: 90 of 100 of one PENNY is none.
        is(27, "cut", x.dealt(7, 4), 201);
        is(27, "cut", x.dealt(7, 6), 0);
    }

    /** A single PENNY: the least CLAIM, BALANCE and PAYMENT. */
    private static void pennies() {
        UnitsWrong x = new UnitsWrong();
        x.fund(0);
        x.holder(0);
        x.holder(0);
        x.deal(0, 0, 100, 9);
        x.go(1);
        x.trade(0, 0, 1, 0, 100);
        x.deal(1, 0, 1, 9);
        x.go(1);
        x.trade(0, 0, 1, 0, -100);
        is(24, "a penny", x.claim(1, 0, 2, 2), 1);
        is(24, "due", x.claim(1, 0, 2, 3), 0);
        pays(x, 0, 20, 1, 1);
        law(x, "least 1 to house");
        is(24, "not below", x.claim(1, 0, 2, 3), 0);
        law(x, "least 2 to house");
        is(24, "small", x.claim(1, 0, 2, 3), 1);
        pays(x, 0, 20, 40, 1);
        law(x, "gone 0 days to poor");
        x.gone(1);
        is(24, "held", x.claim(1, 0, 2, 3), 2);
        x.found(0);
        is(24, "no days to be over", x.claim(1, 0, 2, 3), 3);
        pays(x, 0, 20, 41, 1);
    }

    private static void feeders() {
        UnitsWrong x = new UnitsWrong();
        x.fund(0);
        x.fund(20000);
        x.holder(0);
        x.deal(21, 0, 100, 9);
        x.deal(0, 1, 100, 9);
        x.go(1);
        x.deal(0, 1, -10, 9);
        x.go(1);
        is(18, "held", x.booked(0, 1), 10000);
        is(18, "feeder", x.booked(1, 1), 30000);
        is(23, "units of the feeder", x.units(21, 0), 100);
        is(23, "not of itself", x.units(21, 1), NONE);
        is(23, "not of a greater one", x.units(20, 1), NONE);
        is(23, "no holder", x.units(1, 0), NONE);
        is(23, "no fund", x.units(0, 2), NONE);
        is(26, "cash", x.cash(1, 0), 17000);
        x.trade(0, 0, 1, 0, 5000);
        is(19, "held", x.right(0, 1, 2), 15000);
        is(19, "feeder", x.right(1, 1, 2), 35000);
        is(21, "feeder", x.error(1, 1, 2), -5000);
        is(24, "lost", x.claim(0, 1, 2, 0), 500);
        is(24, "no such who", x.claim(21, 1, 2, 0), ABSENT);
        is(24, "feeder", x.claim(21, 0, 2, 2), 0);
        is(25, "feeder", x.house(1, 2), 0);
        owned(x, 1, 0, 500, 20, 0, 21, -500, 40, 0, 41, 0);
        pays(x, 1, 21, 0, 500);
        x.trade(0, 0, 0, 0, 100);
        // The first price is 100.00 all the same, so that the FEEDER's coins stay.
        is(24, "feeder's", x.claim(21, 0, 2, 2), 0);
        feederLoses();
    }

    private static void feederLoses() {
        UnitsWrong x = new UnitsWrong();
        x.fund(0);
        x.fund(50000);
        x.holder(0);
        x.deal(0, 0, 100, 9);
        x.go(1);
        x.trade(0, 0, 1, 0, 10000);
        x.deal(21, 0, 10, 9);
        x.go(1);
        // Bought at 200.00; but the 10000 were never there.
        x.trade(0, 0, 1, 0, -10000);
        is(19, "right", x.right(0, 1, 2), 10000);
        is(24, "lost", x.claim(21, 0, 2, 2), 1000);
        is(26, "booked", x.cash(1, 0), 48000);
        is(26, "right", x.cash(1, 1), 49000);
        // The FUND got 1000 too much: it pays them itself.
        is(25, "of the fund", x.house(0, 2), 0);
        is(25, "of the feeder", x.house(1, 2), 1000);
        owned(x, 0, 20, -1000, 21, 1000, 40, 0);
        pays(x, 0, 20, 21, 1000);
    }

    private static void lawsInTime() {
        UnitsWrong x = new UnitsWrong();
        x.fund(0);
        x.holder(0);
        x.deal(0, 0, 1000, 9);
        x.go(1);
        law(x, "fee 1000");
        x.go(1);
        // 100000: FEE 100. The LAW of DAY 0 was another.
        is(20, "day 0", x.fee(0, 0, 1), 0);
        is(20, "day 1", x.fee(0, 1, 0), 100);
        law(x, "fee 2000");
        x.go(1);
        is(20, "day 2", x.fee(0, 2, 0), 199);
        is(20, "day 1 still", x.fee(0, 1, 1), 100);
        x.trade(0, 0, 0, 0, 10000);
        // 110000: 110; 109890: 219. BOOKED FEES stay.
        is(20, "right, day 1", x.fee(0, 1, 1), 110);
        is(20, "right, day 2", x.fee(0, 2, 1), 219);
        is(20, "booked", x.fee(0, 1, 0), 100);
        is(26, "booked", x.cash(0, 0), 109701);
        is(26, "right", x.cash(0, 1), 109671);
        // THE HOUSE got too little.
        is(25, "of fees", x.house(0, 3), -30);
        pays(x, 0, 20, 40, 30);
        law(x, "error beyond 999");
        // 999 of 10989 on DAY 1, 997 of 10967 on DAY 2: more than 900 of 10000, less than 999.
        is(21, "day 1", x.error(0, 1, 3), -999);
        is(22, "law of k", x.errors(0), 0);
        is(22, "once more", x.errors(0), 0);
        law(x, "error beyond 900");
        is(22, "law of k", x.errors(0), 2);
    }

    private static void dues() {
        UnitsWrong x = new UnitsWrong();
        x.fund(0);
        x.fund(0);
        is(30, "not found", x.due(0), NONE);
        is(30, "no fund", x.due(2), NONE);
        is(30, "fund -1", x.due(-1), NONE);
        law(x, "report 3 days\nfund 1: report 0 days");
        x.go(5);
        x.found(0);
        x.found(1);
        // DAY 5 isn't OPEN; 7, 8, 9 are.
        is(30, "three", x.due(0), 9);
        is(30, "at once", x.due(1), 5);
        x.holiday(8);
        is(30, "a holiday", x.due(0), 10);
        x.go(1);
        law(x, "report 9 days");
        is(30, "law of the day found", x.due(0), 10);
        UnitsWrong y = new UnitsWrong();
        y.fund(0);
        y.fund(0);
        law(y, "fund 0: report 1 days\nfund 1: report 2 days");
        for (int i = 0; i < 6; i++) y.go(40);
        y.go(16);
        is(30, "now 256", y.count(0), 256);
        y.found(0);
        y.found(1);
        // 257 and 258 aren't OPEN, 259 is the last DAY.
        is(30, "the last day", y.due(0), 259);
        is(30, "behind it", y.due(1), NONE);
    }

    private static void auditsAndSuspects() {
        UnitsWrong x = wrongHouse();
        is(31, "no fund", x.audit(1, 1, 5), NONE);
        is(31, "not over", x.audit(0, 3, 5), NONE);
        is(31, "price -1", x.audit(0, 1, -1), NONE);
        is(31, "price above", x.audit(0, 1, 10000001), NONE);
        is(31, "first", x.audit(0, 1, 17000), 1);
        is(34, "none", x.explain(), NONE);
        is(35, "none", x.rivals(), NONE);
        is(32, "first", x.suspect(0, 0, 2, 50), 0);
        is(32, "second", x.suspect(2, 0, 1, 10), 1);
        is(32, "third", x.suspect(0, 0, 1, 60), 2);
        is(32, "fourth", x.suspect(0, 0, 1, 70), 3);
        is(34, "the later price counts", x.explain(), 8);
        is(35, "only one", x.rivals(), 0);
        is(32, "fifth", x.suspect(0, 0, 1, 60), 4);
        is(34, "still", x.explain(), 8);
        is(32, "sixth", x.suspect(2, 0, 0, 10), 5);
        is(32, "seventh", x.suspect(2, 0, 1, 10), 6);
        is(32, "eighth", x.suspect(2, 0, 1, 10), NONE);
        is(34, "still one", x.explain(), 8);
        is(31, "second", x.audit(0, 2, 17000), 2);
        is(34, "two days", x.explain(), 8);
        is(33, "forgotten", x.forget(), 9);
        is(33, "nothing left", x.forget(), 0);
        x.audit(0, 1, 17000);
        is(34, "not explained", x.explain(), NONE);
        is(33, "one", x.forget(), 1);
        is(34, "nothing to explain", x.explain(), 0);
        is(31, "anew", x.audit(0, 1, 18000), 1);
        is(34, "none needed", x.explain(), 0);
        is(35, "none needed", x.rivals(), 0);
        for (int i = 2; i <= 8; i++) is(31, "audit " + i, x.audit(0, 1, 18000), i);
        is(31, "the ninth", x.audit(0, 1, 18000), NONE);
        x.forget();
        // 19000 on DAY 1: a price of 90, or 60 and a dividend of 30, or 80 and a dividend of 10.
        x.audit(0, 1, 19000);
        x.suspect(2, 0, 1, 30);
        x.suspect(0, 0, 1, 60);
        is(34, "both", x.explain(), 3);
        is(35, "both", x.rivals(), 0);
        x.suspect(0, 0, 1, 60);
        is(34, "the least number", x.explain(), 3);
        is(35, "one as good", x.rivals(), 1);
        x.suspect(0, 0, 1, 90);
        is(34, "fewer", x.explain(), 8);
        x.suspect(2, 0, 1, 10);
        is(34, "least of the fewest", x.explain(), 8);
        is(35, "one rival", x.rivals(), 1);
        x.tell(0, 0, 1, 90);
        is(34, "told now", x.explain(), 0);
        is(24, "nothing was changed", x.claim(1, 0, 3, 0), 100);
        is(41, "suspects", x.count(9), 5);
        is(41, "audits", x.count(8), 1);
    }

    private static void alarms() {
        UnitsWrong x = new UnitsWrong();
        x.fund(0);
        x.fund(0);
        x.holder(0);
        x.deal(0, 0, 100, 9);
        x.go(4);
        is(36, "still", x.alarm(0, 0), NONE);
        x.trade(0, 0, 4, 0, 100);
        x.go(3);
        x.trade(0, 0, 7, 0, 1010);
        x.go(1);
        // 10000, 10100 on DAY 4, 11110 on DAY 7.
        is(36, "any", x.alarm(0, 0), 4);
        is(36, "beyond 99", x.alarm(0, 99), 4);
        is(36, "beyond 100", x.alarm(0, 100), 7);
        is(36, "beyond 999", x.alarm(0, 999), 7);
        is(36, "beyond 1000", x.alarm(0, 1000), NONE);
        is(36, "10000", x.alarm(0, 10000), NONE);
        is(36, "10001", x.alarm(0, 10001), NONE);
        is(36, "-1", x.alarm(0, -1), NONE);
        is(36, "another fund", x.alarm(1, 0), NONE);
        is(36, "no fund", x.alarm(2, 0), NONE);
        x.trade(0, 0, 8, 0, -100000);
        x.go(2);
        is(36, "down to 0", x.alarm(0, 9999), 8);
        x.trade(0, 0, 10, 0, 200000);
        x.go(1);
        is(36, "all of it isn't more", x.alarm(0, 10000), 10);
    }

    private static UnitsWrong fourDeals(int a, int b, int c, int d) {
        UnitsWrong x = new UnitsWrong();
        x.fund(0);
        for (int i = 0; i < 4; i++) {
            x.holder(0);
            x.deal(i, 0, 25, 9);
        }
        x.go(1);
        x.trade(0, 0, 1, 0, 2000);
        x.deal(0, 0, a, 9);
        x.deal(1, 0, b, 9);
        x.deal(2, 0, c, 9);
        x.deal(3, 0, d, 9);
        x.go(1);
        x.trade(0, 0, 1, 0, -2000);
        law(x, "gains back beyond 0");
        return x;
    }

    private static void heaps() {
        // 120.00, which should have been 100.00.
        UnitsWrong x = fourDeals(-10, 10, -15, 15);
        owned(x, 0, 0, -200, 1, 200, 2, -300, 3, 300, 20, 0, 40, 0);
        pays(x, 0, 0, 1, 200, 2, 3, 300);
        x = fourDeals(-10, 10, 10, -10);
        pays(x, 0, 0, 1, 200, 3, 2, 200);
        x = fourDeals(10, 10, -10, -10);
        pays(x, 0, 2, 0, 200, 3, 1, 200);
        x = fourDeals(-10, -5, 8, 7);
        pays(x, 0, 0, 1, 200, 1, 2, 300, 2, 3, 140);
        x = fourDeals(8, -10, -5, 7);
        pays(x, 0, 1, 0, 160, 1, 2, 40, 2, 3, 140);
        x = fourDeals(-10, 4, 10, 2);
        // The FUND got too much from them and pays 120.
        owned(x, 0, 0, -200, 1, 80, 2, 200, 3, 40, 20, -120, 40, 0);
        pays(x, 0, 0, 2, 200, 3, 1, 80, 20, 3, 120);
    }

    private static void manyParties() {
        for (int many = 9; many <= 10; many++) {
            UnitsWrong x = new UnitsWrong();
            x.fund(0);
            for (int i = 0; i < 16; i++) x.holder(0);
            x.deal(15, 0, 100, 9);
            x.go(1);
            x.trade(0, 0, 1, 0, 1000);
            for (int i = 0; i < many; i++) x.deal(i, 0, 1 + i, 9);
            x.go(1);
            x.trade(0, 0, 1, 0, -1000);
            is(39, many + " holders and a fund", x.payments(0), many == 9 ? 9 : NONE);
            is(40, many + " holders and a fund", x.payment(0, 0, 0), many == 9 ? 1 : ABSENT);
            is(38, "balance all the same", x.balance(0, 8), 90);
        }
    }

    private static void nearestEnds() {
        UnitsWrong x = new UnitsWrong();
        x.fund(100000000);
        x.holder(0);
        x.paper(0, 1);
        x.tell(1, 1, 0, 9999);
        x.tell(0, 0, 0, 10000);
        for (int i = 0; i < 10; i++) x.trade(0, 0, 0, 10000, 0);
        x.tell(3, 0, 1, 10000);
        x.deal(0, 0, 1, 9);
        x.go(1);
        law(x, "fee 5000");
        x.tell(2, 0, 1, 1000);
        x.go(1);
        // A million pieces: DIVIDENDS of 9999000000, worth 99990000000: ASSETS 110089000100.
        is(18, "most", x.booked(0, 1), 10000000);
        is(26, "most", x.cash(0, 0), 2000000000);
        is(20, "within", x.fee(0, 1, 0), 550445000);
        x.deal(0, 0, 10000, 9);
        x.go(1);
        is(27, "coins", x.dealt(1, 4), 1000000000);
        x.trade(0, 0, 0, -10000, 0);
        for (int i = 0; i < 19; i++) x.trade(0, 0, 0, -10000, 0);
        // By RIGHT a million pieces below 0: nothing is worth anything.
        is(19, "below 0", x.right(0, 2, 3), 0);
        is(26, "least", x.cash(0, 1), -2000000000);
        is(24, "lost", x.claim(0, 0, 3, 0), 1000000000);
        // FEES of DAYS 1 and 2, 550445000 and 547692775, were too much; the coins go back to who lost them.
        is(25, "the house", x.house(0, 3), 1098137775);
    }

    private static void lastDay() {
        UnitsWrong x = new UnitsWrong();
        x.fund(1000);
        x.holder(0);
        x.deal(0, 0, 10, 9);
        for (int i = 0; i < 6; i++) x.go(40);
        x.go(19);
        is(11, "now 259", x.deal(0, 0, 1, 23), 1);
        law(x, "cut 0");
        is(11, "none behind", x.deal(0, 0, 1, 0), NONE);
        is(29, "found", x.found(0), true);
        x.tell(0, 0, 0, 5);
        x.go(1);
        is(17, "the end", x.count(0), 260);
        is(7, "at the end", x.tell(0, 0, 0, 5), NONE);
        is(10, "at the end", x.trade(0, 0, 0, 1, 1), NONE);
        is(11, "at the end", x.deal(0, 0, 1, 0), NONE);
        is(15, "at the end", x.take(), NONE);
        is(3, "at the end", x.fund(0), NONE);
        is(4, "at the end", x.holder(0), 1);
        is(5, "at the end", x.holiday(260), false);
        is(28, "at the end", x.gone(0), true);
        is(28, "at the end, again", x.gone(0), false);
        is(29, "at the end", x.found(0), false);
        is(12, "at the end", x.feed(0, 0, 0, 0, 0), 20);
        is(31, "at the end", x.audit(0, 259, 20000), 1);
        is(18, "the last day", x.booked(0, 259), 20000);
        is(19, "the last day", x.right(0, 259, 259), 20000);
        is(19, "k 260", x.right(0, 259, 260), NONE);
        is(21, "k 260", x.error(0, 259, 260), ABSENT);
        is(24, "k 260", x.claim(0, 0, 260, 0), ABSENT);
        is(24, "k 259", x.claim(0, 0, 259, 0), 0);
        is(25, "k 260", x.house(0, 260), ABSENT);
        is(25, "k 259", x.house(0, 259), 0);
        is(18, "day 260", x.booked(0, 260), NONE);
        is(27, "dealt at the end", x.dealt(1, 3), 1);
        is(34, "explained", x.explain(), 0);
    }

    private static void foundAtTheEnd() {
        UnitsWrong x = new UnitsWrong();
        x.fund(0);
        for (int i = 0; i < 7; i++) x.go(40);
        is(29, "at the end", x.found(0), false);
        is(30, "at the end", x.due(0), NONE);
    }

    private static void firstDealIsWrong() {
        UnitsWrong x = new UnitsWrong();
        x.fund(0);
        x.holder(0);
        x.holder(0);
        law(x, "cut 10");
        x.deal(1, 0, 10, 23);
        x.deal(0, 0, 100, 9);
        x.go(1);
        x.trade(0, 0, 1, 0, 1000);
        x.go(1);
        x.trade(0, 0, 1, 0, -1000);
        is(24, "by the first deal", x.claim(1, 0, 2, 2), 100);
        is(24, "by the second", x.claim(0, 0, 2, 2), 0);
    }

    private static void lateHoliday() {
        UnitsWrong x = new UnitsWrong();
        x.fund(0);
        x.holder(0);
        law(x, "cut 0");
        x.deal(0, 0, 5, 9);
        is(27, "its day", x.dealt(0, 2), 1);
        x.holiday(1);
        x.go(4);
        is(27, "its day stays", x.dealt(0, 2), 1);
        is(27, "never dealt", x.dealt(0, 3), 0);
        is(27, "no coins", x.dealt(0, 5), 0);
        is(23, "no units", x.units(0, 0), 0);
    }

    private static void counts() {
        UnitsWrong x = wrongHouse();
        x.holiday(30);
        write(x, "fee");
        int[] want = {3, 1, 2, 2, 1, 3, 0, 3, 0, 0, 1};
        for (int what = 0; what < want.length; what++) is(41, "what " + what, x.count(what), want[what]);
        is(41, "units", x.count(20), 90);
        is(41, "no fund", x.count(21), NONE);
        int[] none = {-1, 11, 19, 24, 40, ABSENT, Integer.MAX_VALUE};
        for (int no : none) is(41, "what " + no, x.count(no), NONE);
        is(41, "units of all", x.units(0, 0) + x.units(1, 0), 90);
    }
}
