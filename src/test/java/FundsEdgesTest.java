/** Four FUNDS side by side: each rule for a FUND alone, what each of them has and holds, and the last one on the last DAY. */
public final class FundsEdgesTest {
    public static void main(String[] args) {
        fees();
        swings();
        overs();
        cuts();
        beyonds();
        leasts();
        gains();
        goneDays();
        taxes();
        reports();
        flowsOfOthers();
        lastFeeder();
        lastFundOnTheLastDay();
        fullHouse();
        Run.close();
    }

    /** A LINE for each FUND, with the number of the FUND times a step, and a first one, in place of #. */
    private static String lines(String line, int first, int step) {
        StringBuilder all = new StringBuilder();
        for (int fund = 0; fund < 4; fund++) {
            all.append("fund ").append(fund).append(": ").append(line.replace("#", "" + (first + step * fund))).append('\n');
        }
        return all.toString();
    }

    /** Four FUNDS of 100 UNITS of HOLDER 0; NOW is 1. */
    private static Run four(String about) {
        Run x = new Run(about).after("fund(0)", "fund(0)", "fund(0)", "fund(0)", "holder(0)", "holder(0)");
        for (int fund = 0; fund < 4; fund++) x.after(Run.call("deal", 0, fund, 100, 9));
        return x.is("go(1)", 1);
    }

    /** In each FUND HOLDER 1 bought 10 UNITS on DAY 1 at 101.00, HOLDER 0 sold 10: they should have cost 100.00. */
    private static Run wrong(String about) {
        Run x = four(about);
        for (int fund = 0; fund < 4; fund++) {
            x.after(Run.call("trade", fund, 0, 1, 0, 100), Run.call("deal", 1, fund, 10, 9), Run.call("deal", 0, fund, -10, 9));
        }
        x.is("go(1)", 2);
        for (int fund = 0; fund < 4; fund++) {
            x.after(Run.call("trade", fund, 0, 1, 0, -100)).is(Run.call("error", fund, 1, 2), 100);
        }
        return x;
    }

    private static void fees() {
        Run x = new Run("fee of each FUND").after("fund(1000000)", "fund(1000000)", "fund(1000000)", "fund(1000000)")
            .law("fee 7\n" + lines("fee #", 0, 1000)).is("go(1)", 1);
        for (int fund = 0; fund < 4; fund++) {
            x.is(Run.call("fee", fund, 0, 0), 1000 * fund).is(Run.call("fee", fund, 0, 1), 1000 * fund)
                .is(Run.call("cash", fund, 0), 1000000 - 1000 * fund);
        }
    }

    private static void swings() {
        Run x = four("swing of each FUND").law("swing 1000 over 0\n" + lines("swing # over 0", 0, 100));
        for (int fund = 0; fund < 4; fund++) x.after(Run.call("deal", 1, fund, 1, 9));
        x.is("go(1)", 2);
        for (int fund = 0; fund < 4; fund++) {
            x.is(Run.call("booked", fund, 1), 10000 + 100 * fund).is(Run.call("right", fund, 1, 2), 10000 + 100 * fund);
        }
    }

    private static void overs() {
        Run x = four("over of each FUND").law(lines("swing 1000 over #", 0, 100));
        for (int fund = 0; fund < 4; fund++) x.after(Run.call("deal", 1, fund, 2, 9));
        x.is("go(1)", 2);
        for (int fund = 0; fund < 4; fund++) {
            x.is(Run.call("booked", fund, 1), fund < 2 ? 11000 : 10000)
                .is(Run.call("right", fund, 1, 2), fund < 2 ? 11000 : 10000);
        }
    }

    private static void cuts() {
        Run x = four("cut of each FUND").law(lines("cut #", 8, 1));
        for (int fund = 0; fund < 4; fund++) {
            x.after(Run.call("deal", 1, fund, 2, 9)).is(Run.call("dealt", 4 + fund, 2), fund < 2 ? 2 : 1);
        }
    }

    private static void beyonds() {
        Run x = wrong("error beyond of each FUND").law(lines("error beyond #", 98, 1));
        for (int fund = 0; fund < 4; fund++) {
            int lost = fund < 2 ? 10 : 0;
            x.is(Run.call("errors", fund), fund < 2 ? 1 : 0).claims(1, fund, 2, lost, 0, lost, 0)
                .claims(0, fund, 2, 0, lost, 0, 0).is(Run.call("house", fund, 2), lost).is(Run.call("beside", fund, 99), 10);
            x.is(Run.call("beside", fund, 100), 0).is(Run.call("balance", fund, 40), -lost);
        }
    }

    private static void leasts() {
        Run x = wrong("least of each FUND").law(lines("least # to house", 9, 1) + "fund 3: least 11 to poor\n");
        for (int fund = 0; fund < 4; fund++) x.claims(1, fund, 2, 10, 0, 10, fund < 2 ? 0 : 1);
        // What HOLDER 0 gained, THE HOUSE owes in any case; what is SMALL it gets back from FUND 2.
        for (int fund = 0; fund < 4; fund++) {
            x.is(Run.call("house", fund, 2), 10)
                .balances(fund, 1, fund < 2 ? 10 : 0, 40, fund == 2 ? 0 : -10, 41, fund == 3 ? 10 : 0, 20 + fund, 0);
        }
    }

    private static void gains() {
        Run x = wrong("gains of each FUND").law(lines("gains back beyond #", 8, 1) + "fund 0: gains stay\n");
        int[] owed = {0, -10, 0, 0};
        for (int fund = 0; fund < 4; fund++) {
            x.claims(0, fund, 2, 0, 10, owed[fund], 0).balances(fund, 0, owed[fund], 1, 10, 40, -10 - owed[fund]);
        }
    }

    private static void goneDays() {
        Run x = wrong("gone of each FUND").yes("gone(1)")
            .law(lines("gone # days to house", 1, 1) + "fund 1: gone 2 days to poor\n");
        for (int fund = 0; fund < 4; fund++) x.yes(Run.call("found", fund));
        x.is("go(2)", 4);
        for (int fund = 0; fund < 4; fund++) {
            x.claims(1, fund, 4, 10, 0, 10, fund < 2 ? 3 : 2).claims(1, fund, 3, 10, 0, 10, fund < 1 ? 3 : 2)
                .balances(fund, 40, fund == 0 ? 0 : -10, 41, fund == 1 ? 10 : 0, 20 + fund, fund < 2 ? 0 : 10);
        }
    }

    private static void taxes() {
        Run x = four("tax of each FUND").law(lines("tax #", 0, 10));
        for (int fund = 0; fund < 4; fund++) x.after(Run.call("trade", fund, 0, 1, 0, 10000), Run.call("deal", 0, fund, -10, 9));
        x.is("go(1)", 2);
        for (int fund = 0; fund < 4; fund++) {
            x.is(Run.call("dealt", 4 + fund, 6), 100 * fund).is(Run.call("dealt", 4 + fund, 7), 100 * fund);
        }
    }

    private static void reports() {
        Run x = four("report of each FUND").law(lines("report # days", 0, 1));
        for (int fund = 0; fund < 4; fund++) x.yes(Run.call("found", fund)).is(Run.call("due", fund), 1 + fund);
    }

    /** FLOW of a FUND is by its own DEALS, though others have some on that DAY. */
    private static void flowsOfOthers() {
        for (int with = 0; with < 4; with++) {
            Run x = four("FLOW of FUND " + with).law("swing 1000 over 0").after(Run.call("deal", 1, with, 5, 9)).is("go(1)", 2)
                .after(Run.call("trade", with, 0, 1, 0, 1000));
            for (int fund = 0; fund < 4; fund++) {
                x.is(Run.call("booked", fund, 1), fund == with ? 11000 : 10000)
                    .is(Run.call("right", fund, 1, 2), fund == with ? 12100 : 10000)
                    .is(Run.call("count", 20 + fund), fund == with ? 105 : 100);
            }
        }
    }

    /** FUND 3 bought 10 UNITS of each of the others at 101.00 and not 100.00. */
    private static void lastFeeder() {
        Run x = four("FEEDER 23");
        for (int fund = 0; fund < 3; fund++) x.after(Run.call("trade", fund, 0, 1, 0, 100), Run.call("deal", 23, fund, 10, 9));
        x.is("go(1)", 2).is("cash(3, 0)", 10000 - 3030).is("booked(3, 1)", 10000);
        for (int fund = 0; fund < 3; fund++) x.after(Run.call("trade", fund, 0, 1, 0, -100));
        for (int fund = 0; fund < 3; fund++) {
            x.is(Run.call("units", 23, fund), 10).claims(23, fund, 2, 10, 0, 10, 0).is(Run.call("beside", fund, 0), 10)
                .is(Run.call("house", fund, 2), 0);
            x.balances(fund, 23, 10, 20 + fund, -10, 40, 0).pays(fund, 20 + fund, 23, 10);
        }
        x.is("cash(3, 1)", 7000).is("house(3, 2)", 30).balances(3, 23, 30, 40, -30, 20, 0, 21, 0, 22, 0).pays(3, 40, 23, 30)
            .is("right(3, 1, 2)", 10000);
        x.law("least 11 to poor").claims(23, 0, 2, 10, 0, 10, 1).balances(0, 23, 0, 41, 10).balances(2, 23, 0, 41, 10)
            .is("beside(2, 0)", 10);
    }

    private static void lastFundOnTheLastDay() {
        Run x = four("FUND 3 on DAY 259").law("fee 1000").goTo(259).after("trade(3, 7, 259, 0, 90000)").is("go(1)", 260);
        int had = x.many("cash(3, 0)");
        x.is("booked(3, 259)", had).is("right(3, 259, 259)", had).is("fee(3, 259, 0)", (had + x.many("fee(3, 259, 1)")) / 1000)
            .is("error(3, 259, 259)", 0).is("errors(3)", 0);
        x.is("booked(2, 259)", x.many("cash(2, 0)")).is("alarm(3, 5000)", 259).is("rule(3, 259, 0)", 1000)
            .is("audit(3, 259, 1)", 1).refuses("explain()").is("audit(2, 0, 10000)", 2);
        x.refuses("explain()", "booked(3, 260)", "right(3, 259, 260)", "booked(4, 0)", "right(4, 0, 0)");
    }

    /** All that there can be of HOLDERS, FUNDS, PAPERS and PARTIES. */
    private static void fullHouse() {
        Run x = new Run("a full house").after("fund(100000000)", "fund(100000000)", "fund(100000000)", "fund(100000000)");
        for (int paper = 0; paper < 8; paper++) {
            x.yes(Run.call("paper", paper, paper % 3))
                .after(Run.call("tell", 0, paper, 0, 10000), Run.call("trade", 3, paper, 0, 1, 0));
        }
        x.after("tell(1, 1, 0, 2000)", "tell(1, 2, 0, 3000)");
        for (int holder = 0; holder < 16; holder++) x.is("holder(0)", holder).is(Run.call("deal", holder, 3, 1, 9), holder);
        // PAPERS 0, 3, 6 by 1.000, 1, 4, 7 by 2.000, 2 and 5 by 3.000: 150000; CASH 100001600, by 16 UNITS.
        x.is("go(2)", 2).is("booked(3, 0)", 10000).is("cash(3, 0)", 100001600).is("booked(3, 1)", 10000000)
            .after("trade(3, 0, 1, 0, -100000000)").is("right(3, 1, 2)", (1600 + 150000) * 100 / 16);
        for (int holder = 0; holder < 16; holder++) x.is(Run.call("units", holder, 3), 1).balances(3, holder, 0);
        x.after("deal(15, 3, -5, 9)").is("go(1)", 3).is("dealt(16, 3)", -1).is("units(15, 3)", 0).is("count(23)", 15)
            .yes("gone(15)").refuses("gone(16)");
    }
}
