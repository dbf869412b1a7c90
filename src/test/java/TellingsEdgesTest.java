/** "Terms", mark 1: DAYS, numbers that are told, TELLINGS and what is KNOWN by them, each boundary on both sides. */
public final class TellingsEdgesTest {
    public static void main(String[] args) {
        daysAndNow();
        openDays();
        cashIsBroughtToTheNearerEnd();
        claimsAreBroughtToTheNearerEnd();
        gainsAreBroughtToTheNearerEnd();
        feesAreBroughtToTheNearerEnd();
        asKnownOnADay();
        asKnownAt260();
        latestOfLikeTellings();
        dividendsAndSplitsHoldForTheirDay();
        currencies();
        Run.close();
    }

    // "DAYS are 0 .. 259; NOW is one (0 at first; 260 behind the last one)."
    private static void daysAndNow() {
        Run x = new Run("1, NOW").is("count(0)", 0).is("go(0)", 0).is("go(1)", 1).is("go(40)", 41);
        x.goTo(258).is("go(1)", 259).is("go(0)", 259);
        x.fork().is("go(1)", 260).is("go(1)", 260).is("count(0)", 260);
        x.fork().is("go(2)", 260).is("go(40)", 260);
        x.fork().is("go(40)", 260);
        new Run("1, NOW").goTo(220).is("go(40)", 260);
        new Run("1, NOW").goTo(219).is("go(40)", 259).is("go(1)", 260);
        new Run("1, NOW").goTo(221).is("go(39)", 260);
    }

    // "OPEN is a DAY whose rest by 7 is below 5, and that isn't a HOLIDAY (told ahead of it)."
    private static void openDays() {
        Run x = new Run("1, OPEN");
        for (int day = 0; day < 260; day++) x.is(Run.call("open", day), day % 7 < 5 ? 1 : 0);
        Run y = new Run("1, OPEN").yes("holiday(1)").no("open(1)").yes("open(2)").yes("open(0)").is("go(1)", 1)
            .refuses("holiday(1)").yes("holiday(2)");
        y.no("open(2)").is("go(4)", 5).no("open(1)").no("open(2)").yes("open(4)").refuses("holiday(4)");
        // A HOLIDAY isn't BOOKED, and a FUND's price is none on it.
        Run z = new Run("1, OPEN").after("fund(0)", "holiday(2)").is("go(4)", 4).is("booked(0, 1)", 10000).refuses("booked(0, 2)")
            .is("booked(0, 3)", 10000);
        z.is("go(4)", 8).is("booked(0, 4)", 10000).refuses("booked(0, 5)", "booked(0, 6)").is("booked(0, 7)", 10000);
    }

    // "Whatever is told as a number is brought into -2000000000 .. 2000000000 (the nearer end)."
    private static void cashIsBroughtToTheNearerEnd() {
        Run x = new Run("1, nearer end").after("fund(100000000)", "fund(0)").is("go(1)", 1);
        for (int i = 0; i < 19; i++) x.after("trade(0, 0, 0, 0, 100000000)");
        for (int i = 0; i < 20; i++) x.after("trade(1, 0, 0, 0, -100000000)");
        x.is("cash(0, 0)", 2000000000).is("cash(0, 1)", 2000000000).is("cash(1, 0)", -2000000000).is("cash(1, 1)", -2000000000);
        Run less = x.fork().after("trade(0, 0, 0, 0, -1)", "trade(1, 0, 0, 0, 1)");
        less.is("cash(0, 0)", 1999999999).is("cash(0, 1)", 1999999999).is("cash(1, 0)", -1999999999)
            .is("cash(1, 1)", -1999999999);
        Run more = x.fork().after("trade(0, 0, 0, 0, 1)", "trade(1, 0, 0, 0, -1)");
        more.is("cash(0, 0)", 2000000000).is("cash(0, 1)", 2000000000).is("cash(1, 0)", -2000000000)
            .is("cash(1, 1)", -2000000000);
        more.after("trade(0, 0, 0, 0, 100000000)", "trade(1, 0, 0, 0, -100000000)");
        more.is("cash(0, 0)", 2000000000).is("cash(0, 1)", 2000000000).is("cash(1, 0)", -2000000000)
            .is("cash(1, 1)", -2000000000);
        // It is only told so: CASH itself goes on.
        more.after("trade(0, 0, 0, 0, -100000000)", "trade(1, 0, 0, 0, 100000000)", "trade(0, 0, 0, 0, -2)",
            "trade(1, 0, 0, 0, 2)");
        more.is("cash(0, 0)", 1999999999).is("cash(0, 1)", 1999999999).is("cash(1, 0)", -1999999999)
            .is("cash(1, 1)", -1999999999);
    }

    /** One UNIT is worth 100000.00 on DAY 1, as BOOKED; by RIGHT it is worth nothing. The buyers lose it all. */
    private static Run dearFund(int... bought) {
        Run x = Run.ofUnits("1, nearer end", 1).after("trade(0, 0, 1, 0, 100000000)");
        for (int n : bought) x.after(Run.call("deal", 1, 0, n, 9));
        return x.is("go(1)", 2).is("booked(0, 1)", 10000000).after("trade(0, 0, 1, 0, -100000000)", "trade(0, 0, 1, 0, -100)")
            .is("right(0, 1, 2)", 0);
    }

    private static void claimsAreBroughtToTheNearerEnd() {
        Run x = dearFund(10000, 10000).claims(1, 0, 2, 2000000000, 0, 2000000000, 0).is("beside(0, 0)", 2000000000);
        x.balances(0, 1, 2000000000, 20, -2000000000, 40, 0).pays(0, 20, 1, 2000000000).is("house(0, 2)", 0)
            .is("dealt(1, 4)", 1000000000);
        x = dearFund(10000, 9999).claims(1, 0, 2, 1999900000, 0, 1999900000, 0).is("beside(0, 0)", 1999900000);
        x.balances(0, 1, 1999900000, 20, -1999900000, 40, 0).pays(0, 20, 1, 1999900000);
        x = dearFund(10000, 10000, 1).claims(1, 0, 2, 2000000000, 0, 2000000000, 0).is("beside(0, 0)", 2000000000);
        x.balances(0, 1, 2000000000, 20, -2000000000, 40, 0).pays(0, 20, 1, 2000000000).is("house(0, 2)", 0);
    }

    /** On DAY 1 UNITS cost nothing, as BOOKED; by RIGHT they cost 100000.00 each. The buyers gain it all. */
    private static Run cheapFund(int... bought) {
        Run x = Run.ofUnits("1, nearer end", 1).after("trade(0, 0, 1, 0, -100)");
        for (int n : bought) x.after(Run.call("deal", 1, 0, n, 9));
        return x.is("go(1)", 2).is("booked(0, 1)", 0).after("trade(0, 0, 1, 0, 100000)").is("right(0, 1, 2)", 10000000);
    }

    private static void gainsAreBroughtToTheNearerEnd() {
        for (int more = -1; more <= 1; more++) {
            long sum = Math.min(2000000000, 2000000000 + 100000 * more);
            Run x = more > 0 ? cheapFund(10000, 10000, 1) : cheapFund(10000, 10000 + more);
            x.claims(1, 0, 2, 0, sum, 0, 0).is("house(0, 2)", sum).balances(0, 1, 0, 20, sum, 40, -sum).pays(0, 40, 20, sum);
            x.law("gains back beyond 0").claims(1, 0, 2, 0, sum, -sum, 0).is("house(0, 2)", 0)
                .balances(0, 1, -sum, 20, sum, 40, 0);
            x.pays(0, 1, 20, sum).is("beside(0, 0)", 0);
        }
    }

    /** Four PAPERS of a million pieces at 10000 and 9.999, and CASH: ASSETS of 400000000000 and some PENCE more. */
    private static void feesAreBroughtToTheNearerEnd() {
        int[][] pence = {{0, 2000000000}, {-200, 1999999999}, {199, 2000000000}, {200, 2000000000}, {100000000, 2000000000}};
        for (int[] one : pence) {
            Run x = new Run("1, nearer end");
            for (int paper = 0; paper < 4; paper++) x.yes(Run.call("paper", paper, 1));
            x.after("fund(40000000)", "tell(1, 1, 0, 9999)");
            for (int paper = 0; paper < 4; paper++) {
                x.after(Run.call("tell", 0, paper, 0, 10000), Run.call("trade", 0, paper, 0, 10000, 0),
                    Run.call("tell", 3, paper, 1, 10000), Run.call("tell", 3, paper, 2, 10000));
            }
            x.is("go(2)", 2).law("fee 5000").after(Run.call("trade", 0, 0, 2, 0, one[0])).is("go(1)", 3)
                .is("fee(0, 2, 0)", one[1]).is("fee(0, 2, 1)", one[1]);
        }
    }

    // "AS KNOWN on a DAY k: by TELLINGS and TRADES made on k or ahead of it"
    private static void asKnownOnADay() {
        Run x = Run.ofUnits("1, AS KNOWN", 100).after("trade(0, 0, 1, 10, 0)").is("go(2)", 3).after("tell(0, 0, 1, 7)")
            .is("go(1)", 4);
        x.is("known(0, 0, 1, 2)", 0).is("known(0, 0, 1, 3)", 7).is("known(0, 0, 1, 4)", 7).is("known(0, 0, 1, 259)", 7);
        x.is("right(0, 1, 2)", 10000).is("right(0, 1, 3)", 10070).is("right(0, 1, 4)", 10070).is("error(0, 1, 2)", 0)
            .is("error(0, 1, 3)", -70);
        x.no("stale(0, 0, 2, 2)").yes("stale(0, 0, 2, 3)");
        Run y = Run.ofUnits("1, AS KNOWN", 100).is("go(2)", 3).after("trade(0, 0, 1, 0, 7)").is("go(1)", 4);
        y.is("right(0, 1, 2)", 10000).is("right(0, 1, 3)", 10007).is("right(0, 1, 4)", 10007).is("house(0, 2)", 0);
        // DAY 3 was BOOKED with it.
        y.is("booked(0, 2)", 10000).is("booked(0, 3)", 10007).is("error(0, 2, 4)", -7).is("error(0, 3, 4)", 0);
    }

    // "(AS KNOWN NOW at 260: on 259)"
    private static void asKnownAt260() {
        Run x = Run.ofUnits("1, AS KNOWN", 100).goTo(259).after("trade(0, 0, 1, 0, 100)");
        // OPEN DAYS are 186; the first one has no UNITS, the last one isn't over.
        x.is("errors(0)", 184).is("cash(0, 1)", 10100).is("go(1)", 260).is("errors(0)", 184).is("cash(0, 0)", 10100)
            .is("cash(0, 1)", 10100);
        x.is("right(0, 258, 259)", Run.NONE).is("right(0, 256, 258)", 10000).is("right(0, 256, 259)", 10100)
            .is("booked(0, 259)", 10100);
        for (int beyond = 99; beyond <= 100; beyond++) {
            Run y = Run.ofUnits("1, AS KNOWN", 100).goTo(259).after("trade(0, 0, 1, 0, 100)").law("error beyond " + beyond)
                .is("go(1)", 260);
            // 100 of 10100 are 99.01 of 10000.
            y.is("errors(0)", beyond == 99 ? 184 : 0);
        }
    }

    // "Of PRICE and RATE on a DAY that for the latest DAY, up to it, for which there is one counts (of like ones the latest made"
    private static void latestOfLikeTellings() {
        for (int subject = 0; subject <= 1; subject++) {
            Run x = new Run("1, TELLINGS");
            int none = subject == 0 ? 0 : 1000;
            x.after(Run.call("tell", subject, 1, 3, 100), Run.call("tell", subject, 1, 3, 101),
                Run.call("tell", subject, 1, 1, 50), Run.call("tell", subject, 2, 3, 7));
            x.is(Run.call("known", subject, 1, 0, 0), none).is(Run.call("known", subject, 1, 1, 0), 50)
                .is(Run.call("known", subject, 1, 2, 0), 50);
            x.is(Run.call("known", subject, 1, 3, 0), 101).is(Run.call("known", subject, 1, 4, 0), 101)
                .is(Run.call("known", subject, 2, 3, 0), 7);
            x.no(Run.call("stale", subject, 1, 0, 0)).no(Run.call("stale", subject, 1, 1, 0))
                .yes(Run.call("stale", subject, 1, 2, 0));
            x.no(Run.call("stale", subject, 1, 3, 0)).yes(Run.call("stale", subject, 1, 4, 0))
                .yes(Run.call("stale", subject, 1, 259, 259));
            x.is("go(1)", 1).after(Run.call("tell", subject, 1, 2, 60), Run.call("tell", subject, 1, 3, 102),
                Run.call("tell", subject, 1, 259, 9));
            x.is(Run.call("known", subject, 1, 2, 0), 50).is(Run.call("known", subject, 1, 2, 1), 60)
                .is(Run.call("known", subject, 1, 3, 0), 101);
            x.is(Run.call("known", subject, 1, 3, 1), 102).is(Run.call("known", subject, 1, 258, 1), 102)
                .is(Run.call("known", subject, 1, 259, 1), 9);
            x.is(Run.call("known", subject, 1, 259, 0), 101).no(Run.call("stale", subject, 1, 259, 1))
                .yes(Run.call("stale", subject, 1, 259, 0));
        }
    }

    // "Of DIVIDEND and SPLIT on a DAY the latest TELLING for that DAY counts (without one 0, 1000)."
    private static void dividendsAndSplitsHoldForTheirDay() {
        Run x = new Run("1, TELLINGS").after("tell(2, 0, 3, 7)", "tell(3, 0, 3, 500)", "tell(2, 0, 3, 8)", "tell(3, 0, 3, 600)");
        x.is("known(2, 0, 2, 0)", 0).is("known(2, 0, 3, 0)", 8).is("known(2, 0, 4, 0)", 0).is("known(2, 1, 3, 0)", 0);
        x.is("known(3, 0, 2, 0)", 1000).is("known(3, 0, 3, 0)", 600).is("known(3, 0, 4, 0)", 1000).is("known(3, 1, 3, 0)", 1000);
        x.is("go(1)", 1).after("tell(2, 0, 3, 0)", "tell(3, 0, 3, 1000)", "tell(2, 0, 4, 9)", "tell(3, 0, 4, 900)");
        x.is("known(2, 0, 3, 0)", 8).is("known(2, 0, 3, 1)", 0).is("known(3, 0, 3, 0)", 600).is("known(3, 0, 3, 1)", 1000);
        x.is("known(2, 0, 4, 1)", 9).is("known(3, 0, 4, 1)", 900).is("known(2, 0, 5, 1)", 0).is("known(3, 0, 5, 1)", 1000);
    }

    // "CURRENCY 0 has 1000"; "PAPERS have a CURRENCY each (0 at first; told while NOW is 0)."
    private static void currencies() {
        Run x = fundWithPapers().is("go(1)", 2);
        // 10 pieces at 10 each: 100 by 1.000, 200 by 2.000, 300 by 3.000.
        x.is("booked(0, 1)", 10600);
        Run y = fundWithPapers().refuses("paper(0, 1)", "paper(1, 0)", "paper(2, 1)").is("go(1)", 2).is("booked(0, 1)", 10600);
        y.after("tell(1, 1, 1, 1)").is("right(0, 1, 2)", 10400).is("booked(0, 1)", 10600);
    }

    private static Run fundWithPapers() {
        Run x = new Run("1, CURRENCY").after("fund(0)", "holder(0)").yes("paper(1, 1)").yes("paper(2, 1)").yes("paper(2, 2)")
            .after("deal(0, 0, 100, 9)");
        x.after("tell(1, 1, 0, 2000)", "tell(1, 2, 0, 3000)");
        for (int paper = 0; paper < 3; paper++) x.after(Run.call("tell", 0, paper, 0, 10), Run.call("trade", 0, paper, 0, 10, 0));
        return x.is("go(1)", 1);
    }
}
