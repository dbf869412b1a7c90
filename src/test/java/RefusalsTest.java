/**
 * Promise by promise, what each call refuses: each reason alone, with the call next to it that is taken, and that
 * nothing is changed by it.
 */
public final class RefusalsTest {
    private static final int LEAST_INT = Integer.MIN_VALUE;
    private static final int MOST_INT = Integer.MAX_VALUE;
    private static final int[] FAR = {LEAST_INT, -1, MOST_INT};

    public static void main(String[] args) {
        papers();
        funds();
        laterFund();
        fifthFund();
        holders();
        seventeenthHolder();
        holidays();
        openDays();
        tellings();
        tellingsBeyond400();
        known();
        stale();
        trades();
        tradesBeyond120();
        deals();
        dealsBeyond200();
        dealsWithoutDay();
        feeding();
        ending();
        taking();
        seventhLaw();
        rules();
        going();
        pricesAndFees();
        errors();
        units();
        claims();
        houseAndCash();
        dealt();
        gone();
        found();
        dues();
        audits();
        ninthAudit();
        suspects();
        eighthSuspect();
        explaining();
        alarmsAndBeside();
        balances();
        payments();
        counts();
        nothingYet();
        behindTheLastDay();
        questionsChangeNothing();
        Run.close();
    }

    /** Three FUNDS, the last two of them FEEDERS, on DAY 0. */
    private static Run house(String about) {
        Run x = new Run(about)
            .after("paper(1, 1)", "fund(10000)", "fund(50000)", "fund(0)", "holder(0)", "holder(3)", "holder(-5)");
        x.law("cut 12\nfee 100\nfund 1: swing 50 over 100\nerror beyond 5\nleast 20 to poor\ngains back beyond 30\n"
            + "gone 1 days to house\ntax 20\nreport 2 days\n");
        x.after("tell(0, 0, 0, 100)", "tell(0, 1, 0, 50)", "tell(1, 1, 0, 1500)", "trade(0, 0, 0, 100, -10000)",
            "trade(1, 1, 0, 20, -1500)");
        return x.after("deal(0, 0, 100, 9)", "deal(1, 0, 50, 9)", "deal(21, 0, 20, 9)", "deal(2, 1, 30, 1)", "deal(1, 2, 7, 9)");
    }

    /** The same on DAY 4, with prices that were wrong, HOLDER 1 GONE, ERRORS of FUND 0 FOUND, half a TEXT. */
    private static Run laterHouse(String about) {
        Run x = house(about).is("go(1)", 1).after("deal(1, 0, 10, 9)", "deal(0, 0, -20, 9)", "deal(22, 1, 5, 3)").is("go(1)", 2);
        x.after("deal(2, 1, -10, 5)", "tell(2, 0, 1, 3)").is("go(1)", 3);
        x.after("tell(0, 0, 1, 80)", "trade(0, 1, 1, 2, -60)", "holiday(7)", "gone(1)", "found(0)", "deal(0, 0, 5, 20)")
            .is("go(1)", 4);
        x.after("audit(0, 1, 14992)", "suspect(0, 0, 1, 90)", "suspect(2, 0, 1, 4)", "deal(0, 0, -30, 3)");
        return x.text("fund 0: fee 7\nfund 1: ta");
    }

    private static Run lastDay(String about) {
        return laterHouse(about).goTo(259);
    }

    private static void papers() {
        Run x = house("2, paper");
        x.fork().yes("paper(0, 0)").yes("paper(0, 1)").yes("paper(0, 2)").yes("paper(7, 2)").yes("paper(1, 0)")
            .yes("paper(1, 0)");
        x.refuses("paper(-1, 0)", "paper(8, 0)", "paper(0, -1)", "paper(0, 3)", "paper(8, 3)");
        for (int far : FAR) x.refuses(Run.call("paper", far, 0), Run.call("paper", 0, far));
        // NOW isn't 0.
        laterHouse("2, paper").refuses("paper(0, 0)", "paper(0, 1)", "paper(1, 2)");
        lastDay("2, paper").is("go(1)", 260).refuses("paper(0, 1)");
        new Run("2, paper").is("go(0)", 0).yes("paper(0, 1)").is("go(1)", 1).refuses("paper(0, 1)", "paper(0, 2)");
    }

    private static void funds() {
        Run x = house("3, fund");
        x.fork().is("fund(0)", 3).is("cash(3, 0)", 0);
        x.fork().is("fund(100000000)", 3).is("cash(3, 0)", 100000000);
        x.refuses("fund(-1)", "fund(100000001)", Run.call("fund", LEAST_INT), Run.call("fund", MOST_INT));
        laterHouse("3, fund").refuses("fund(0)", "fund(5)");
        new Run("3, fund").is("go(0)", 0).is("fund(7)", 0).is("go(1)", 1).refuses("fund(7)");
    }

    /** One FUND more, after CASH was asked for. */
    private static void laterFund() {
        Run x = new Run("3, fund").is("fund(5)", 0).is("cash(0, 0)", 5).is("house(0, 0)", 0).is("fund(7)", 1).is("cash(1, 0)", 7)
            .is("cash(1, 1)", 7);
        x.is("payments(1)", 0).is("fund(100000000)", 2).is("cash(2, 1)", 100000000).is("cash(0, 1)", 5).is("house(2, 0)", 0);
    }

    private static void fifthFund() {
        Run x = new Run("3, fund").is("fund(1)", 0).is("fund(2)", 1).is("fund(3)", 2).is("fund(4)", 3);
        x.refuses("fund(5)", "fund(0)").is("count(1)", 4).is("cash(3, 0)", 4);
    }

    private static void holders() {
        Run x = laterHouse("4, holder");
        x.fork().is("holder(-11)", 3);
        x.fork().is("holder(12)", 3);
        x.refuses("holder(-12)", "holder(13)", Run.call("holder", LEAST_INT), Run.call("holder", MOST_INT));
    }

    private static void seventeenthHolder() {
        Run x = new Run("4, holder").after("fund(0)");
        for (int i = 0; i < 16; i++) x.is("holder(0)", i);
        x.refuses("holder(0)", "holder(12)").is("count(2)", 16);
        x.is("deal(15, 0, 1, 9)", 0).refuses("deal(16, 0, 1, 9)");
    }

    private static void holidays() {
        Run x = laterHouse("5, holiday");
        x.fork().yes("holiday(5)").yes("holiday(6)").yes("holiday(259)").no("open(259)").is("count(10)", 4);
        // It isn't behind NOW; it is behind the last DAY; it is one already.
        x.refuses("holiday(4)", "holiday(3)", "holiday(0)", "holiday(260)", "holiday(7)");
        for (int far : FAR) x.refuses(Run.call("holiday", far));
        Run y = house("5, holiday");
        y.fork().yes("holiday(1)").refuses("holiday(1)");
        y.refuses("holiday(0)");
        // A DAY that isn't OPEN anyway can be one, once.
        y.yes("holiday(5)").refuses("holiday(5)");
        Run z = lastDay("5, holiday");
        z.refuses("holiday(259)", "holiday(260)").yes("open(259)");
        z.is("go(1)", 260).refuses("holiday(259)", "holiday(260)", "holiday(261)");
    }

    private static void openDays() {
        Run x = laterHouse("6, open");
        for (int day : new int[] {LEAST_INT, -259, -7, -6, -3, -1, 260, 261, 266, 1000, MOST_INT}) x.no(Run.call("open", day));
        x.yes("open(0)").yes("open(4)").no("open(5)").no("open(6)").no("open(7)").yes("open(8)");
        x.yes("open(256)").no("open(257)").no("open(258)").yes("open(259)");
    }

    private static void tellings() {
        // SUBJECT, least and most number, least and most value.
        int[][] bounds = {{0, 0, 7, 1, 10000}, {1, 1, 2, 1, 9999}, {2, 0, 7, 0, 1000}, {3, 0, 7, 100, 10000}};
        Run x = laterHouse("7, tell");
        for (int[] b : bounds) {
            for (int i = 0; i < 2; i++) {
                int number = b[1 + i];
                int value = b[3 + i];
                int off = i == 0 ? -1 : 1;
                int day = i == 0 ? 0 : 259;
                Run y = x.fork().is(Run.call("tell", b[0], number, day, value), 6).is("count(3)", 6);
                y.is(Run.call("known", b[0], number, day, 4), value);
                x.refuses(Run.call("tell", b[0], number + off, day, value),
                    Run.call("tell", b[0], number, day + (i == 0 ? -1 : 1), value),
                    Run.call("tell", b[0], number, day, value + off));
            }
            x.refuses(Run.call("tell", b[0], LEAST_INT, 0, 500), Run.call("tell", b[0], MOST_INT, 0, 500),
                Run.call("tell", b[0], 1, LEAST_INT, 500),
                Run.call("tell", b[0], 1, MOST_INT, 500), Run.call("tell", b[0], 1, 0, LEAST_INT),
                    Run.call("tell", b[0], 1, 0, MOST_INT));
        }
        x.refuses("tell(-1, 1, 0, 500)", "tell(4, 1, 0, 500)", Run.call("tell", LEAST_INT, 1, 0, 500),
            Run.call("tell", MOST_INT, 1, 0, 500));
        Run y = lastDay("7, tell");
        y.fork().is("tell(0, 0, 0, 7)", 6);
        y.is("go(1)", 260).refuses("tell(0, 0, 0, 7)", "tell(1, 1, 259, 7)", "tell(2, 0, 5, 7)", "tell(3, 0, 5, 700)");
    }

    private static void tellingsBeyond400() {
        Run x = new Run("7, tell").after("fund(0)", "holder(0)", "deal(0, 0, 10, 9)");
        for (int i = 1; i < 400; i++) x.is(Run.call("tell", 0, i % 8, i % 260, i), i);
        Run y = x.fork();
        y.is("tell(0, 0, 0, 77)", 400).is("known(0, 0, 0, 0)", 77);
        y.refuses("tell(0, 0, 0, 78)", "tell(1, 1, 0, 78)", "tell(2, 0, 0, 78)", "tell(3, 0, 0, 780)").is("count(3)", 400);
        // A refused one takes no place.
        x.refuses("tell(0, 0, 0, 0)").is("tell(3, 7, 259, 100)", 400).refuses("tell(3, 7, 259, 100)");
    }

    private static void known() {
        Run x = laterHouse("8, known");
        x.all(0, "known(0, 2, 0, 0)", "known(0, 7, 259, 259)", "known(2, 0, 0, 259)", "known(2, 7, 259, 0)");
        x.all(1000, "known(1, 2, 0, 0)", "known(1, 2, 259, 259)", "known(3, 0, 0, 0)", "known(3, 7, 259, 259)");
        x.refuses("known(-1, 0, 0, 0)", "known(4, 0, 0, 0)", "known(0, -1, 0, 0)", "known(0, 8, 0, 0)", "known(1, 0, 0, 0)",
            "known(1, 3, 0, 0)",
            "known(2, -1, 0, 0)", "known(2, 8, 0, 0)", "known(3, -1, 0, 0)", "known(3, 8, 0, 0)", "known(0, 0, -1, 0)",
                "known(0, 0, 260, 0)",
            "known(0, 0, 0, -1)", "known(0, 0, 0, 260)");
        for (int far : FAR) {
            x.refuses(Run.call("known", far, 0, 0, 0), Run.call("known", 0, far, 0, 0), Run.call("known", 0, 0, far, 0),
                Run.call("known", 0, 0, 0, far));
        }
    }

    private static void stale() {
        Run x = laterHouse("9, stale");
        x.yes("stale(0, 0, 2, 4)").yes("stale(0, 0, 259, 259)").yes("stale(1, 1, 1, 0)").no("stale(0, 0, 0, 0)")
            .no("stale(0, 0, 1, 4)");
        // None was told; none was known then; no DIVIDEND or SPLIT is.
        x.no("stale(0, 2, 5, 5)").no("stale(1, 2, 5, 5)").yes("stale(0, 0, 1, 2)").no("stale(2, 0, 2, 4)")
            .no("stale(3, 0, 2, 4)");
        x.fork().after("tell(0, 7, 1, 5)", "tell(1, 2, 1, 5)").yes("stale(0, 7, 2, 4)").no("stale(0, 7, 1, 4)")
            .yes("stale(1, 2, 2, 4)").no("stale(1, 2, 1, 4)").no("stale(0, 6, 2, 4)");
        x.refuses("stale(-1, 0, 5, 5)", "stale(4, 0, 5, 5)", "stale(0, -1, 5, 5)", "stale(0, 8, 5, 5)", "stale(1, 0, 5, 5)",
            "stale(1, 3, 5, 5)",
            "stale(0, 0, -1, 5)", "stale(0, 0, 260, 5)", "stale(0, 0, 5, -1)", "stale(0, 0, 5, 260)");
        for (int far : FAR) {
            x.refuses(Run.call("stale", far, 0, 5, 5), Run.call("stale", 0, far, 5, 5), Run.call("stale", 0, 0, far, 5),
                Run.call("stale", 0, 0, 5, far));
        }
    }

    private static void trades() {
        Run x = laterHouse("10, trade");
        String[] good = {"trade(0, 0, 0, 1, 1)", "trade(2, 0, 0, 1, 1)", "trade(0, 7, 0, 1, 1)", "trade(0, 0, 4, 1, 1)",
            "trade(0, 0, 0, 10000, 1)",
            "trade(0, 0, 0, -10000, 1)", "trade(0, 0, 0, 0, 100000000)", "trade(0, 0, 0, 0, -100000000)", "trade(0, 0, 0, 0, 0)"};
        for (String one : good) x.fork().is(one, 3).is("count(4)", 4);
        x.refuses("trade(-1, 0, 0, 1, 1)", "trade(3, 0, 0, 1, 1)", "trade(0, -1, 0, 1, 1)", "trade(0, 8, 0, 1, 1)",
            "trade(0, 0, -1, 1, 1)",
            "trade(0, 0, 5, 1, 1)", "trade(0, 0, 259, 1, 1)", "trade(0, 0, 0, 10001, 1)", "trade(0, 0, 0, -10001, 1)",
            "trade(0, 0, 0, 0, 100000001)", "trade(0, 0, 0, 0, -100000001)");
        for (int far : new int[] {LEAST_INT, MOST_INT}) {
            x.refuses(Run.call("trade", far, 0, 0, 1, 1), Run.call("trade", 0, far, 0, 1, 1), Run.call("trade", 0, 0, far, 1, 1),
                Run.call("trade", 0, 0, 0, far, 1),
                Run.call("trade", 0, 0, 0, 1, far));
        }
        new Run("10, trade").refuses("trade(0, 0, 0, 1, 1)").after("fund(0)").is("trade(0, 0, 0, 1, 1)", 0)
            .refuses("trade(1, 0, 0, 1, 1)", "trade(0, 0, 1, 1, 1)");
        Run y = lastDay("10, trade");
        y.fork().is("trade(0, 0, 259, 1, 1)", 3);
        y.refuses("trade(0, 0, 260, 1, 1)").is("go(1)", 260)
            .refuses("trade(0, 0, 259, 1, 1)", "trade(0, 0, 0, 1, 1)", "trade(0, 0, 260, 1, 1)");
    }

    private static void tradesBeyond120() {
        Run x = house("10, trade");
        for (int i = 2; i < 119; i++) x.is("trade(0, 2, 0, 1, -1)", i);
        x.refuses("trade(0, 2, 1, 1, 1)").is("trade(0, 0, 0, 5, 5)", 119).is("count(4)", 120);
        x.refuses("trade(0, 0, 0, 5, 5)", "trade(0, 0, 0, 6, 5)", "trade(0, 0, 0, 5, 6)", "trade(2, 0, 0, 0, 0)").is("go(1)", 1)
            .refuses("trade(0, 0, 0, 5, 5)", "trade(0, 1, 0, 7, 7)");
    }

    private static void deals() {
        Run x = laterHouse("11, deal");
        String[] good = {"deal(0, 0, 1, 0)", "deal(2, 2, 1, 0)", "deal(21, 0, 1, 0)", "deal(22, 0, 1, 0)", "deal(22, 1, 1, 0)",
            "deal(0, 0, 10000, 0)",
            "deal(0, 0, -1, 0)", "deal(0, 0, -10000, 0)", "deal(0, 0, 1, 23)"};
        for (String one : good) x.fork().is(one, 11).is("count(5)", 12);
        x.refuses("deal(-1, 0, 1, 0)", "deal(3, 0, 1, 0)", "deal(15, 0, 1, 0)", "deal(16, 0, 1, 0)", "deal(19, 0, 1, 0)",
            "deal(20, 0, 1, 0)",
            "deal(20, 1, 1, 0)", "deal(21, 1, 1, 0)", "deal(21, 2, 1, 0)", "deal(22, 2, 1, 0)", "deal(23, 0, 1, 0)",
                "deal(24, 0, 1, 0)",
            "deal(40, 0, 1, 0)", "deal(41, 0, 1, 0)");
        x.refuses("deal(0, -1, 1, 0)", "deal(0, 3, 1, 0)", "deal(0, 4, 1, 0)", "deal(0, 0, 0, 0)", "deal(0, 0, 10001, 0)",
            "deal(0, 0, -10001, 0)",
            "deal(0, 0, 1, -1)", "deal(0, 0, 1, 24)", "deal(23, 3, 1, 0)");
        for (int far : new int[] {LEAST_INT, MOST_INT}) {
            x.refuses(Run.call("deal", far, 0, 1, 0), Run.call("deal", 0, far, 1, 0), Run.call("deal", 0, 0, far, 0),
                Run.call("deal", 0, 0, 1, far));
        }
        new Run("11, deal").refuses("deal(0, 0, 1, 0)").after("fund(0)").refuses("deal(0, 0, 1, 0)").after("holder(0)")
            .is("deal(0, 0, 1, 0)", 0);
    }

    private static void dealsBeyond200() {
        Run x = house("11, deal");
        for (int i = 5; i < 199; i++) x.is("deal(0, 0, 1, 9)", i);
        x.refuses("deal(0, 0, 0, 9)").is("deal(2, 0, 50, 0)", 199).is("count(5)", 200);
        x.refuses("deal(2, 0, 50, 0)", "deal(0, 0, -1, 9)", "deal(21, 0, 1, 9)").is("go(1)", 1).refuses("deal(0, 0, 1, 9)");
        x.is("units(2, 0)", 50).is("units(0, 0)", 294);
    }

    private static void dealsWithoutDay() {
        // On the last DAY, at and behind CUT.
        Run x = lastDay("11, deal");
        x.fork().is("deal(0, 0, 1, 11)", 11).is("dealt(11, 2)", 259);
        x.refuses("deal(0, 0, 1, 12)", "deal(0, 0, 1, 23)", "deal(1, 0, 1, 15)", "deal(21, 0, 1, 12)");
        x.is("go(1)", 260).refuses("deal(0, 0, 1, 0)", "deal(0, 0, 1, 11)", "deal(1, 0, -1, 0)", "deal(21, 0, 1, 0)");
        // The last DAY is a HOLIDAY: behind DAY 256 there is none.
        Run y = house("11, deal").after("holiday(259)").goTo(256);
        y.fork().is("deal(0, 0, 1, 11)", 5).is("dealt(5, 2)", 256);
        y.refuses("deal(0, 0, 1, 12)").is("go(1)", 257).refuses("deal(0, 0, 1, 0)").is("go(2)", 259).refuses("deal(0, 0, 1, 0)");
    }

    private static void feeding() {
        Run x = house("12, feed").text("fee 1");
        for (int i = 1; i < 29; i++) x.is("feed(538976288, 538976288, 538976288, 538976288, 538976288)", 5 + 20 * i);
        // 565 bytes: 20 more are 585, and then there is no room for 20.
        x.is("feed(538976288, 538976288, 538976288, 538976288, 538976288)", 585);
        x.refuses("feed(538976288, 538976288, 538976288, 538976288, 538976288)", "feed(0, 0, 0, 0, 0)").is("count(7)", 585);
        x.fork().yes("end(581)").refuses("feed(0, 0, 0, 0, 0)");
        x.yes("end(580)").is("feed(538976288, 538976288, 538976288, 538976288, 538976288)", 600).is("fault()", -1);
        x.refuses("feed(538976288, 538976288, 538976288, 538976288, 538976288)", "feed(-1, -1, -1, -1, -1)",
            "feed(0, 0, 0, 0, 0)").is("count(7)", 600).is("fault()", -1);
        x.yes("end(580)").is("feed(538976288, 538976288, 538976288, 538976288, 538976312)", 600).is("fault()", 599)
            .yes("end(599)").is("fault()", -1);
    }

    private static void ending() {
        Run x = house("13, end").text("fee 12\ncut 7");
        x.refuses("end(13)", "end(20)", "end(600)", "end(601)", "end(-1)", Run.call("end", LEAST_INT), Run.call("end", MOST_INT));
        x.fork().yes("end(12)").is("count(7)", 12).yes("end(0)").is("count(7)", 0).refuses("end(1)", "end(-1)").yes("end(0)");
        x.yes("end(5)").is("count(7)", 5).refuses("end(6)", "end(12)").is("take()", 1).rules(0, 0, 1, 1, 1);
        new Run("13, end").yes("end(0)").refuses("end(1)", "end(-1)");
    }

    private static void taking() {
        Run x = house("15, take").text("fee 12\ncut 25");
        x.is("fault()", 11).refuses("take()").is("count(7)", 13).is("count(6)", 1).rules(0, 0, 100, 100, 100);
        x.yes("end(12)").is("fault()", -1).is("take()", 1).is("count(7)", 0).rules(0, 3, 2, 2, 2);
        // Without TOKENS it is a LAW too.
        x.is("take()", 2).rules(0, 0, 0, 0, 0).rules(0, 3, 24, 24, 24);
        Run y = lastDay("15, take").text("fee 9");
        y.fork().is("take()", 1).rules(259, 0, 9, 9, 9).rules(258, 0, 100, 100, 100);
        y.is("go(1)", 260).is("fault()", -1).refuses("take()").is("count(7)", 5);
    }

    private static void seventhLaw() {
        Run x = house("15, take");
        for (int i = 1; i < 6; i++) x.text("fee " + i).is("take()", i);
        x.is("count(6)", 6).text("fee 77").is("fault()", -1).refuses("take()").is("count(7)", 6).rules(0, 0, 5, 5, 5);
        x.is("go(1)", 1).refuses("take()");
    }

    private static void rules() {
        Run x = laterHouse("16, rule");
        x.is("rule(0, 0, 0)", 100).is("rule(2, 259, 11)", 2);
        x.refuses("rule(-1, 0, 0)", "rule(3, 0, 0)", "rule(4, 0, 0)", "rule(0, -1, 0)", "rule(0, 260, 0)", "rule(0, 0, -1)",
            "rule(0, 0, 12)");
        for (int far : FAR) x.refuses(Run.call("rule", far, 0, 0), Run.call("rule", 0, far, 0), Run.call("rule", 0, 0, far));
    }

    private static void going() {
        Run x = laterHouse("17, go");
        x.fork().is("go(0)", 4).is("go(40)", 44);
        x.refuses("go(-1)", "go(41)", "go(260)", Run.call("go", LEAST_INT), Run.call("go", MOST_INT)).is("count(0)", 4);
        // Up to 260: as many DAYS as are left end.
        Run y = house("17, go").goTo(219);
        y.fork().is("go(40)", 259);
        y.fork().is("go(1)", 220).is("go(40)", 260).is("booked(0, 259)", y.fork().goTo(260).many("booked(0, 259)"));
        y.is("go(2)", 221).is("go(40)", 260).is("go(40)", 260).is("go(1)", 260).is("go(0)", 260).refuses("go(41)", "go(-1)");
    }

    private static void pricesAndFees() {
        Run x = laterHouse("18 to 20, prices");
        for (int day = 0; day < 4; day++) {
            x.after(Run.call("booked", 2, day), Run.call("right", 2, day, 4), Run.call("right", 2, day, day),
                Run.call("fee", 2, day, 0), Run.call("fee", 2, day, 1));
        }
        x.refuses("booked(-1, 0)", "booked(3, 0)", "booked(0, -1)", "booked(0, 4)", "booked(0, 259)", "booked(0, 260)");
        x.refuses("right(-1, 0, 4)", "right(3, 0, 4)", "right(0, -1, 4)", "right(0, 4, 4)", "right(0, 2, 1)", "right(0, 2, 5)",
            "right(0, 0, -1)");
        x.refuses("fee(-1, 0, 0)", "fee(3, 0, 0)", "fee(0, -1, 0)", "fee(0, 4, 0)", "fee(0, 4, 1)", "fee(0, 0, 2)",
            "fee(0, 0, -1)");
        for (int far : FAR) {
            x.refuses(Run.call("booked", far, 0), Run.call("booked", 0, far), Run.call("right", far, 0, 4),
                Run.call("right", 0, far, 4), Run.call("right", 0, 0, far));
            x.refuses(Run.call("fee", far, 0, 0), Run.call("fee", 0, far, 0), Run.call("fee", 0, 0, far));
        }
        // DAYS that aren't OPEN: 5 and 6, and 7, a HOLIDAY; NOW on one of them and behind them.
        x.is("go(4)", 8).after("booked(0, 4)", "right(0, 4, 8)", "fee(0, 4, 0)", "error(0, 4, 8)");
        for (int day = 5; day <= 8; day++) {
            x.refuses(Run.call("booked", 0, day), Run.call("right", 0, day, 8), Run.call("fee", 0, day, 0),
                Run.call("fee", 0, day, 1), Run.call("error", 0, day, 8), Run.call("audit", 0, day, 5));
        }
        Run y = lastDay("18 to 20, prices");
        y.refuses("booked(0, 259)", "right(0, 259, 259)").is("go(1)", 260)
            .after("booked(0, 259)", "right(0, 259, 259)", "right(0, 0, 259)", "fee(0, 259, 1)");
        y.refuses("booked(0, 260)", "right(0, 259, 260)", "right(0, 259, 258)", "right(0, 260, 260)", "fee(0, 260, 0)");
    }

    private static void errors() {
        Run x = laterHouse("21 and 22, errors");
        x.after("error(0, 0, 0)", "error(0, 0, 4)", "error(2, 3, 3)", "error(2, 3, 4)", "errors(0)", "errors(2)");
        x.refuses("error(-1, 0, 4)", "error(3, 0, 4)", "error(0, -1, 4)", "error(0, 4, 4)", "error(0, 2, 1)", "error(0, 2, 5)",
            "error(0, 0, -1)");
        x.refuses("errors(-1)", "errors(3)", "errors(4)", "errors(20)");
        for (int far : FAR) {
            x.refuses(Run.call("error", far, 0, 4), Run.call("error", 0, far, 4), Run.call("error", 0, 0, far),
                Run.call("errors", far));
        }
        lastDay("21, error").is("go(1)", 260).after("error(0, 259, 259)").refuses("error(0, 259, 260)", "error(0, 260, 260)");
        new Run("22, errors").refuses("errors(0)").after("fund(0)").is("errors(0)", 0);
    }

    private static void units() {
        Run x = laterHouse("23, units");
        x.is("units(2, 0)", 0).is("units(1, 2)", 7).is("units(21, 0)", 20).is("units(22, 0)", 0).is("units(22, 1)", 5)
            .is("units(2, 1)", 20);
        x.refuses("units(-1, 0)", "units(3, 0)", "units(16, 0)", "units(19, 0)", "units(20, 0)", "units(21, 1)", "units(21, 2)",
            "units(22, 2)", "units(23, 0)",
            "units(40, 0)", "units(41, 0)", "units(0, -1)", "units(0, 3)", "units(0, 4)");
        for (int far : FAR) x.refuses(Run.call("units", far, 0), Run.call("units", 0, far));
    }

    private static void claims() {
        Run x = laterHouse("24, claim");
        x.after("claim(0, 0, 0, 0)", "claim(0, 0, 4, 3)", "claim(2, 2, 4, 0)", "claim(21, 0, 4, 0)", "claim(22, 1, 4, 2)");
        x.refuses("claim(-1, 0, 4, 0)", "claim(3, 0, 4, 0)", "claim(19, 0, 4, 0)", "claim(20, 0, 4, 0)", "claim(21, 1, 4, 0)",
            "claim(21, 2, 4, 0)",
            "claim(23, 0, 4, 0)", "claim(40, 0, 4, 0)", "claim(0, -1, 4, 0)", "claim(0, 3, 4, 0)", "claim(0, 0, -1, 0)",
                "claim(0, 0, 5, 0)", "claim(0, 0, 259, 0)",
            "claim(0, 0, 4, -1)", "claim(0, 0, 4, 4)");
        for (int far : FAR) {
            x.refuses(Run.call("claim", far, 0, 4, 0), Run.call("claim", 0, far, 4, 0), Run.call("claim", 0, 0, far, 0),
                Run.call("claim", 0, 0, 4, far));
        }
        Run y = lastDay("24, claim").after("claim(0, 0, 259, 0)").refuses("claim(0, 0, 260, 0)");
        y.is("go(1)", 260).after("claim(0, 0, 259, 0)").refuses("claim(0, 0, 260, 0)");
    }

    private static void houseAndCash() {
        Run x = laterHouse("25 and 26, house and cash");
        x.after("house(0, 0)", "house(2, 4)", "cash(0, 0)", "cash(2, 1)");
        x.refuses("house(-1, 0)", "house(3, 0)", "house(0, -1)", "house(0, 5)", "cash(-1, 0)", "cash(3, 0)", "cash(0, -1)",
            "cash(0, 2)");
        for (int far : FAR) {
            x.refuses(Run.call("house", far, 0), Run.call("house", 0, far), Run.call("cash", far, 0), Run.call("cash", 0, far));
        }
        lastDay("25, house").is("go(1)", 260).after("house(0, 259)").refuses("house(0, 260)");
    }

    private static void dealt() {
        Run x = laterHouse("27, dealt");
        for (int what = 0; what < 8; what++) x.after(Run.call("dealt", 0, what), Run.call("dealt", 10, what));
        x.refuses("dealt(-1, 0)", "dealt(11, 0)", "dealt(199, 0)", "dealt(200, 0)", "dealt(0, -1)", "dealt(0, 8)");
        for (int far : FAR) x.refuses(Run.call("dealt", far, 0), Run.call("dealt", 0, far));
        new Run("27, dealt").refuses("dealt(0, 0)");
    }

    private static void gone() {
        Run x = laterHouse("28, gone");
        x.fork().yes("gone(0)").yes("gone(2)").refuses("gone(0)", "gone(2)");
        x.refuses("gone(-1)", "gone(3)", "gone(15)", "gone(16)", "gone(20)", "gone(21)", "gone(40)", "gone(1)",
            Run.call("gone", LEAST_INT), Run.call("gone", MOST_INT));
        x.is("go(1)", 5).refuses("gone(1)");
        // Behind the last DAY they may still go.
        lastDay("28, gone").is("go(1)", 260).yes("gone(0)").refuses("gone(0)", "gone(1)");
        new Run("28, gone").refuses("gone(0)").after("holder(0)").yes("gone(0)").refuses("gone(0)");
    }

    private static void found() {
        Run x = laterHouse("29, found");
        x.fork().yes("found(1)").yes("found(2)").refuses("found(1)", "found(2)");
        x.refuses("found(-1)", "found(3)", "found(4)", "found(20)", "found(0)", Run.call("found", LEAST_INT),
            Run.call("found", MOST_INT));
        x.is("go(1)", 5).refuses("found(0)");
        Run y = lastDay("29, found");
        y.fork().yes("found(1)").refuses("found(1)");
        y.is("go(1)", 260).refuses("found(0)", "found(1)", "found(2)");
        // Without a LAW it would be due at once.
        new Run("29, found").after("fund(0)").goTo(259).fork().yes("found(0)").is("due(0)", 259);
        new Run("29, found").after("fund(0)").goTo(260).refuses("found(0)", "due(0)");
    }

    private static void dues() {
        Run x = laterHouse("30, due");
        // FOUND on DAY 3: 2 OPEN DAYS behind it is 8, as 7 is a HOLIDAY.
        x.is("due(0)", 8).refuses("due(1)", "due(2)", "due(3)", "due(-1)", "due(20)", Run.call("due", LEAST_INT),
            Run.call("due", MOST_INT));
        // FOUND on 252: 253; on 255: 256 and 259; on 256: 259, and none.
        Run y = house("30, due").goTo(255).yes("found(0)").is("due(0)", 259).is("go(1)", 256).yes("found(1)").refuses("due(1)")
            .is("due(0)", 259);
        y.is("go(3)", 259).yes("found(2)").refuses("due(2)").is("go(1)", 260).is("due(0)", 259).refuses("due(1)", "due(2)");
    }

    private static void audits() {
        Run x = laterHouse("31, audit");
        x.fork().is("audit(0, 0, 0)", 2).is("audit(2, 3, 10000000)", 3).is("audit(0, 0, 0)", 4).is("count(8)", 4);
        x.refuses("audit(-1, 0, 5)", "audit(3, 0, 5)", "audit(0, -1, 5)", "audit(0, 4, 5)", "audit(0, 259, 5)",
            "audit(0, 260, 5)", "audit(0, 0, -1)",
            "audit(0, 0, 10000001)");
        for (int far : FAR) x.refuses(Run.call("audit", far, 0, 5), Run.call("audit", 0, far, 5), Run.call("audit", 0, 0, far));
        lastDay("31, audit").refuses("audit(0, 259, 5)").is("go(1)", 260).refuses("audit(0, 260, 5)").is("audit(0, 259, 5)", 2);
        house("31, audit").refuses("audit(0, 0, 5)").is("go(1)", 1).is("audit(0, 0, 5)", 1);
    }

    private static void ninthAudit() {
        Run x = laterHouse("31, audit");
        for (int i = 2; i < 8; i++) x.is("audit(0, 0, 10000)", i);
        x.refuses("audit(0, 0, -1)").is("explain()", 2).is("audit(0, 1, 14992)", 8).is("explain()", 2);
        x.refuses("audit(0, 1, 14992)", "audit(0, 0, 5)", "audit(1, 1, 5)").is("count(8)", 8).is("explain()", 2);
        x.is("forget()", 10).is("count(8)", 0).is("count(9)", 0).is("audit(0, 1, 20000)", 1);
    }

    private static void suspects() {
        int[][] bounds = {{0, 0, 7, 1, 10000}, {1, 1, 2, 1, 9999}, {2, 0, 7, 0, 1000}, {3, 0, 7, 100, 10000}};
        Run x = laterHouse("32, suspect");
        for (int[] b : bounds) {
            x.fork().is(Run.call("suspect", b[0], b[1], 0, b[3]), 2).is(Run.call("suspect", b[0], b[2], 259, b[4]), 3)
                .is("count(9)", 4).is("count(3)", 5);
            x.refuses(Run.call("suspect", b[0], b[1] - 1, 0, 500), Run.call("suspect", b[0], b[2] + 1, 0, 500),
                Run.call("suspect", b[0], 1, -1, 500),
                Run.call("suspect", b[0], 1, 260, 500), Run.call("suspect", b[0], 1, 0, b[3] - 1),
                    Run.call("suspect", b[0], 1, 0, b[4] + 1));
        }
        x.refuses("suspect(-1, 1, 0, 500)", "suspect(4, 1, 0, 500)");
        for (int far : new int[] {LEAST_INT, MOST_INT}) {
            x.refuses(Run.call("suspect", far, 1, 0, 500), Run.call("suspect", 0, far, 0, 500),
                Run.call("suspect", 0, 1, far, 500), Run.call("suspect", 0, 1, 0, far));
        }
    }

    private static void eighthSuspect() {
        Run x = laterHouse("32, suspect");
        for (int i = 2; i < 6; i++) x.is("suspect(0, 0, 0, 7)", i);
        x.refuses("suspect(0, 0, 0, 0)").is("suspect(2, 0, 1, 4)", 6).is("explain()", 2).is("rivals()", 1);
        x.refuses("suspect(2, 0, 1, 4)", "suspect(2, 0, 1, 5)", "suspect(0, 0, 0, 7)").is("count(9)", 7).is("rivals()", 1);
        x.is("forget()", 8).is("suspect(2, 0, 1, 5)", 0).is("forget()", 1).is("forget()", 0);
    }

    private static void explaining() {
        Run x = laterHouse("34 and 35, explain and rivals");
        // A DIVIDEND of 4 in place of 3 makes 254.87 by 170 UNITS.
        x.is("explain()", 2).is("rivals()", 0);
        x.fork().is("forget()", 3).is("audit(0, 1, 1)", 1).refuses("explain()", "rivals()").is("suspect(0, 0, 1, 1)", 0)
            .refuses("explain()", "rivals()");
        x.fork().is("forget()", 3).is("explain()", 0).is("rivals()", 0).is("suspect(0, 0, 1, 1)", 0).is("explain()", 0)
            .is("rivals()", 0);
        new Run("34 and 35, explain and rivals").is("explain()", 0).is("rivals()", 0);
    }

    private static void alarmsAndBeside() {
        Run x = laterHouse("36 and 37, alarm and beside");
        x.is("alarm(0, 0)", 1).is("alarm(0, 10000)", Run.NONE);
        x.after("beside(0, 0)", "beside(2, 5000)");
        x.refuses("alarm(-1, 0)", "alarm(3, 0)", "alarm(0, -1)", "alarm(0, 10001)", "beside(-1, 0)", "beside(3, 0)",
            "beside(0, -1)", "beside(0, 5001)");
        for (int far : FAR) {
            x.refuses(Run.call("alarm", far, 0), Run.call("alarm", 0, far), Run.call("beside", far, 0),
                Run.call("beside", 0, far));
        }
    }

    private static void balances() {
        Run x = laterHouse("38, balance");
        for (int party : new int[] {0, 2, 20, 21, 22, 40, 41}) {
            x.after(Run.call("balance", 0, party), Run.call("balance", 2, party));
        }
        for (int party : new int[] {LEAST_INT, -1, 3, 15, 16, 19, 23, 24, 39, 42, 60, MOST_INT}) {
            x.refuses(Run.call("balance", 0, party));
        }
        for (int fund : new int[] {LEAST_INT, -1, 3, 4, 20, MOST_INT}) x.refuses(Run.call("balance", fund, 40));
        // A FUND is a PARTY for FUNDS that it can't hold, too.
        x.all(0, "balance(2, 20)", "balance(1, 20)", "balance(2, 21)");
    }

    private static void payments() {
        Run x = laterHouse("39 and 40, payments");
        int all = x.many("payments(0)");
        for (int what = 0; what < 3; what++) x.after(Run.call("payment", 0, 0, what), Run.call("payment", 0, all - 1, what));
        for (int fund : new int[] {LEAST_INT, -1, 3, 4, 20, MOST_INT}) {
            x.refuses(Run.call("payments", fund), Run.call("payment", fund, 0, 0));
        }
        x.refuses("payment(0, -1, 0)", Run.call("payment", 0, all, 0), Run.call("payment", 0, LEAST_INT, 0),
            Run.call("payment", 0, MOST_INT, 0));
        x.refuses("payment(0, 0, -1)", "payment(0, 0, 3)", Run.call("payment", 0, 0, LEAST_INT),
            Run.call("payment", 0, 0, MOST_INT));
        new Run("39 and 40, payments").after("fund(5)").is("payments(0)", 0).refuses("payment(0, 0, 0)");
    }

    private static void counts() {
        Run x = laterHouse("41, count");
        int[] want = {4, 3, 3, 5, 3, 11, 1, 24, 1, 2, 1};
        for (int what = 0; what < want.length; what++) x.is(Run.call("count", what), want[what]);
        x.is("count(20)", 160).is("count(21)", 25).is("count(22)", 7);
        x.refuses("count(-1)", "count(11)", "count(12)", "count(19)", "count(23)", "count(24)", "count(40)",
            Run.call("count", LEAST_INT), Run.call("count", MOST_INT));
        Run y = new Run("41, count").refuses("count(20)").after("fund(0)").is("count(20)", 0).refuses("count(21)");
        y.after("fund(0)", "fund(0)", "fund(0)").is("count(23)", 0).refuses("count(24)");
    }

    /** What holds at NOW 0, while no DAY is over. */
    private static void nothingYet() {
        Run x = house("NOW 0");
        x.all(0, "errors(0)", "house(0, 0)", "claim(0, 0, 0, 0)", "claim(0, 0, 0, 1)", "claim(0, 0, 0, 2)", "claim(0, 0, 0, 3)",
            "units(0, 0)", "beside(0, 0)",
            "balance(0, 20)", "balance(0, 40)", "payments(0)", "dealt(0, 3)", "dealt(0, 4)", "dealt(0, 5)", "dealt(0, 6)",
                "dealt(0, 7)", "count(20)", "explain()");
        // CASH as it began, though TRADES for DAY 0 are KNOWN.
        x.is("cash(0, 0)", 10000).is("cash(0, 1)", 10000).is("cash(1, 0)", 50000);
        x.refuses("booked(0, 0)", "right(0, 0, 0)", "fee(0, 0, 0)", "error(0, 0, 0)", "alarm(0, 0)", "due(0)",
            "payment(0, 0, 0)", "house(0, 1)", "claim(0, 0, 1, 0)");
        Run y = new Run("a new object");
        for (int what = 0; what <= 10; what++) y.is(Run.call("count", what), 0);
        y.refuses("count(20)", "units(0, 0)", "rule(0, 0, 0)", "cash(0, 0)", "house(0, 0)", "claim(0, 0, 0, 0)",
            "balance(0, 40)", "payments(0)", "errors(0)", "found(0)",
            "gone(0)", "due(0)", "trade(0, 0, 0, 1, 1)", "deal(0, 0, 1, 0)", "alarm(0, 0)", "beside(0, 0)", "audit(0, 0, 5)",
                "booked(0, 0)", "dealt(0, 0)");
        y.is("fault()", -1).is("known(0, 0, 0, 0)", 0).is("tell(0, 0, 0, 5)", 1).is("suspect(0, 0, 0, 5)", 0).yes("open(0)")
            .is("go(1)", 1);
    }

    /** What holds at NOW 260. */
    private static void behindTheLastDay() {
        Run x = lastDay("NOW 260").after("tell(2, 0, 259, 50)").is("go(1)", 260);
        x.refuses("paper(0, 0)", "fund(0)", "holiday(259)", "holiday(260)", "tell(0, 0, 0, 5)", "trade(0, 0, 0, 1, 1)",
            "deal(0, 0, 1, 0)", "found(1)");
        x.fork().is("holder(0)", 3).yes("gone(2)").text("fee 3").refuses("take()").is("audit(0, 259, 5)", 2)
            .is("suspect(0, 0, 0, 5)", 2).is("forget()", 5);
        x.is("known(2, 0, 259, 259)", 50).is("known(2, 0, 259, 258)", 0).after("right(0, 259, 259)")
            .refuses("right(0, 259, 260)", "known(0, 0, 0, 260)", "known(0, 0, 260, 0)");
        x.is("go(0)", 260).is("go(5)", 260).is("count(0)", 260).is("due(0)", 8);
    }

    private static void questionsChangeNothing() {
        laterHouse("questions").answersInAnyOrder().besides(house("questions").goTo(3).law("tax 5"));
        house("questions").answersInAnyOrder();
        lastDay("questions").is("go(1)", 260).answersInAnyOrder();
    }
}
