/** "Terms", mark 4: ERRORS, CLAIMS, what THE HOUSE owes and TAX, each boundary on both sides. */
public final class ClaimEdgesTest {
    public static void main(String[] args) {
        errorsCountAboveBeyond();
        errorsOnDaysThatAreOver();
        beyondByTheLawOfK();
        lossesAndGains();
        eachDealCountsAlone();
        dealsOnDaysWhoseErrorCounts();
        daysUpToK();
        gainsBackBeyond();
        gainOfAPenny();
        smallBelowLeast();
        smallToP();
        goneDaysAreOver();
        goneFromADayOn();
        goneAndNotFound();
        goneToP();
        goneAndSmallOrOwing();
        goneAtTheEnd();
        houseBehindTheLatestDay();
        houseOfFeesAlone();
        houseOfEachFund();
        taxIsCut();
        taxOfAShare();
        taxByRightCoins();
        taxByTheLawOfItsDay();
        taxStartsAnew();
        taxOfWhatIsNoSale();
        Run.close();
    }

    /** 100 UNITS of HOLDER 0; on DAY 1 BOOKED at one price, with DEALS of n UNITS of HOLDERS 1 and on; by RIGHT another price. */
    private static Run priced(String about, int booked, int right, int... deals) {
        Run x = Run.ofUnits(about, 100).after(Run.call("trade", 0, 0, 1, 0, booked - 10000));
        for (int i = 0; i < deals.length; i++) x.after(Run.call("deal", i, 0, deals[i], 9));
        x.is("go(1)", 2).is("booked(0, 1)", booked).after(Run.call("trade", 0, 0, 1, 0, right - booked));
        return x.is("right(0, 1, 2)", right).is("error(0, 1, 2)", booked - right);
    }

    /** HOLDER 1 bought 10 UNITS on DAY 1 for 110.00 each, that should have been 100.00: a LOSS of 100, told on DAY 2. */
    private static Run lost100(String about) {
        return priced(about, 11000, 10000, 1, 10).claims(1, 0, 2, 100, 0, 100, 0);
    }

    // "It counts, if 10000 times it (or times -1) is above beyond (of THE LAW of k) times the RIGHT one."
    private static void errorsCountAboveBeyond() {
        // BOOKED, RIGHT, and the most that beyond may be so that the ERROR counts (-1: none).
        int[][] all = {{11000, 10000, 999}, {9000, 10000, 999}, {10001, 10000, 0}, {9999, 10000, 0}, {10000, 10000, -1},
            {15000, 10000, 4999}, {5000, 10000, 4999}, {15001, 10000, 5000},
            {4999, 10000, 5000}, {20000, 18000, 1111}, {1, 0, 5000}, {0, 0, -1}, {0, 1, 5000}, {10101, 10100, 0},
                {10102, 10100, 1}, {10101, 10000, 100}, {10100, 10000, 99}, {9899, 10000, 100}};
        for (int[] one : all) {
            for (int beyond : new int[] {0, one[2], one[2] + 1, 5000}) {
                if (beyond < 0 || beyond > 5000) continue;
                boolean counts = beyond <= one[2];
                Run x = priced("4, ERROR", one[0], one[1], 7).law("error beyond " + beyond).is("errors(0)", counts ? 1 : 0);
                long coins = (7L * one[0] + 99) / 100 - (7L * one[1] + 99) / 100;
                x.claims(0, 0, 2, counts ? Math.max(0, coins) : 0, counts ? Math.max(0, -coins) : 0);
                boolean beside = 5000 - beyond <= one[2];
                x.is(Run.call("beside", 0, 5000 - beyond), beside ? Math.max(0, coins) : 0);
            }
        }
    }

    // "ERROR of a FUND on an OPEN DAY"; "(DAYS are those that are over, up to k.)"
    private static void errorsOnDaysThatAreOver() {
        Run x = Run.ofUnits("4, ERRORS", 100).goTo(9).is("errors(0)", 0).after("trade(0, 0, 1, 0, 1)");
        // 1 to 4, 7 and 8.
        x.is("errors(0)", 6).refuses("error(0, 5, 9)", "error(0, 6, 9)", "error(0, 9, 9)").is("go(1)", 10).is("errors(0)", 6)
            .is("error(0, 9, 10)", 0);
        Run y = Run.ofUnits("4, ERRORS", 100).yes("holiday(3)").goTo(9).after("trade(0, 0, 4, 0, 1)").is("errors(0)", 3)
            .refuses("error(0, 3, 9)");
        y.is("error(0, 2, 9)", 0).is("error(0, 4, 9)", -1).is("error(0, 8, 9)", -1).is("error(0, 4, 8)", 0);
        // None is over.
        new Run("4, ERRORS").after("fund(0)", "trade(0, 0, 0, 0, 5)").is("errors(0)", 0);
    }

    private static void beyondByTheLawOfK() {
        Run x = lost100("4, THE LAW of k").is("go(1)", 3).law("error beyond 1000\ngains back beyond 0\nleast 0 to fund")
            .is("go(1)", 4).law("least 101 to poor");
        x.claims(1, 0, 2, 100, 0, 100, 0).claims(1, 0, 3, 0, 0, 0, 0).claims(1, 0, 4, 100, 0, 100, 1).claims(1, 0, 1, 0, 0, 0, 0)
            .claims(1, 0, 0, 0, 0, 0, 0);
        // HOLDER 0 bought one, too: the FUND got 110 too much.
        x.claims(0, 0, 4, 10, 0, 10, 1).is("house(0, 1)", 0).is("house(0, 2)", 0).is("house(0, 3)", -110).is("house(0, 4)", 0);
        // DAYS 2 and 3 were BOOKED with them in it: 11210 by 111.
        x.is("error(0, 2, 4)", 99).is("error(0, 3, 4)", 99).is("errors(0)", 3);
    }

    // "coins BOOKED less RIGHT ones: of what was bought that is a LOSS of WHO (a GAIN, if it is below 0), of what was sold a GAIN (or LOSS)"
    private static void lossesAndGains() {
        priced("4, bought too dear", 11000, 10000, 10).claims(0, 0, 2, 100, 0, 100, 0);
        priced("4, bought too cheap", 9000, 10000, 10).claims(0, 0, 2, 0, 100, 0, 0);
        priced("4, sold too dear", 11000, 10000, -10).claims(0, 0, 2, 0, 100, 0, 0);
        priced("4, sold too cheap", 9000, 10000, -10).claims(0, 0, 2, 100, 0, 100, 0);
        // An ERROR that counts, of so few UNITS that coins are the same: 1 UNIT sold at 100.01 or 100.00; bought it is a PENNY.
        priced("4, coins are the same", 10001, 10000, -1).is("errors(0)", 1).claims(0, 0, 2, 0, 0, 0, 0);
        priced("4, a begun PENNY", 10001, 10000, 1).claims(0, 0, 2, 1, 0, 1, 0);
        priced("4, a begun PENNY", 10002, 10001, 1).is("errors(0)", 1).claims(0, 0, 2, 0, 0, 0, 0);
        priced("4, as many as there are", 11000, 10000, -10000).claims(0, 0, 2, 0, 1000, 0, 0);
    }

    // "LOST and GAINED of WHO by a FUND are the sums of these."
    private static void eachDealCountsAlone() {
        Run x = Run.ofUnits("4, sums", 100)
            .after("trade(0, 0, 1, 0, 1000)", "deal(0, 0, 10, 9)", "deal(0, 0, -5, 9)", "deal(0, 0, 2, 9)", "deal(0, 0, -1, 9)",
            "deal(1, 0, 3, 9)").is("go(1)", 2);
        x.after("trade(0, 0, 1, 0, -1000)").claims(0, 0, 2, 120, 60, 120, 0).claims(1, 0, 2, 30, 0, 30, 0)
            .claims(2, 0, 2, 0, 0, 0, 0);
        x.law("gains back beyond 0").claims(0, 0, 2, 120, 60, 60, 0).claims(1, 0, 2, 30, 0, 30, 0);
        // By each FUND on its own.
        Run y = new Run("4, sums")
            .after("fund(0)", "fund(0)", "holder(0)", "holder(0)", "deal(0, 0, 100, 9)", "deal(0, 1, 100, 9)").is("go(1)", 1);
        y.after("trade(0, 0, 1, 0, 1000)", "trade(1, 0, 1, 0, 2000)", "deal(1, 0, 10, 9)", "deal(1, 1, 10, 9)").is("go(1)", 2)
            .after("trade(0, 0, 1, 0, -1000)", "trade(1, 0, 1, 0, -2000)");
        y.claims(1, 0, 2, 100, 0, 100, 0).claims(1, 1, 2, 200, 0, 200, 0);
    }

    // "By each DEAL on a DAY whose ERROR counts"
    private static void dealsOnDaysWhoseErrorCounts() {
        // DAY 1: 110.00 and not 100.00; DAY 2: 110.00 and not 109.00.
        Run x = Run.ofUnits("4, DAYS that count", 100).after("trade(0, 0, 1, 0, 1000)", "deal(1, 0, 10, 9)").is("go(1)", 2)
            .after("deal(2, 0, 10, 9)").is("go(1)", 3);
        x.after("trade(0, 0, 1, 0, -1000)", "trade(0, 0, 2, 0, 990)").is("error(0, 1, 3)", 1000).is("right(0, 2, 3)", 10900)
            .is("error(0, 2, 3)", 100);
        // Beyond, how many DAYS, LOST on DAY 1 and 2.
        int[][] all = {{91, 2, 100, 10}, {92, 1, 100, 0}, {999, 1, 100, 0}, {1000, 0, 0, 0}};
        for (int[] one : all) {
            x.law("error beyond " + one[0]).is("errors(0)", one[1]).claims(1, 0, 3, one[2], 0, one[2], 0)
                .claims(2, 0, 3, one[3], 0, one[3], 0);
            // The FUND got 110 too much; what isn't claimed goes to THE HOUSE.
            x.is("house(0, 3)", one[2] + one[3] - 110).is(Run.call("beside", 0, one[0]), one[2] + one[3])
                .balances(0, 20, -110, 40, 110 - one[2] - one[3], 1, one[2], 2, one[3]);
        }
    }

    private static void daysUpToK() {
        // What is wrong on DAY 1 is told on 2, what is wrong on DAY 2 on 3.
        Run x = Run.ofUnits("4, up to k", 100).after("deal(1, 0, 10, 9)").is("go(1)", 2)
            .after("trade(0, 0, 1, 0, -1000)", "deal(1, 0, 10, 9)").claims(1, 0, 2, 100, 0, 100, 0);
        x.is("go(1)", 3).after("trade(0, 0, 2, 0, -1000)").is("go(1)", 4).is("booked(0, 1)", 10000).is("booked(0, 2)", 9090);
        x.is("right(0, 1, 1)", 10000).claims(1, 0, 1, 0, 0, 0, 0).is("house(0, 1)", 0);
        // On 2 DAY 2 is over, too: 909 were paid, and not 900; on 3 there should have been 809.
        x.is("right(0, 1, 2)", 9000).is("right(0, 2, 2)", 9000).claims(1, 0, 2, 109, 0, 109, 0).is("right(0, 2, 3)", 8090)
            .claims(1, 0, 3, 200, 0, 200, 0).claims(1, 0, 4, 200, 0, 200, 0);
    }

    // "else LOST less GAINED, but if that is below 0 and not below minus beyond, 0 (below 0: WHO owes it)"
    private static void gainsBackBeyond() {
        // HOLDER 0 sells n UNITS too dear, at 110.00 and not 100.00, and buys m: GAINED 10 n, LOST 10 m.
        int[][] all = {{10, 0, 99, -100}, {10, 0, 100, 0}, {10, 0, 101, 0}, {10, 0, 0, -100}, {10, 5, 49, -50}, {10, 5, 50, 0},
            {10, 5, 0, -50}, {5, 5, 0, 0}, {5, 10, 0, 50}, {5, 10, 100000, 50},
            {0, 10, 100000, 100}, {10, 11, 9, 10}, {11, 10, 9, -10}, {11, 10, 10, 0}};
        for (int[] one : all) {
            Run x = Run.ofUnits("4, gains back beyond " + one[2], 100).after("trade(0, 0, 1, 0, 1000)");
            if (one[0] > 0) x.after(Run.call("deal", 0, 0, -one[0], 9));
            if (one[1] > 0) x.after(Run.call("deal", 0, 0, one[1], 9));
            x.is("go(1)", 2).after("trade(0, 0, 1, 0, -1000)").claims(0, 0, 2, 10 * one[1], 10 * one[0], 10 * one[1], 0);
            x.law("gains back beyond " + one[2]).claims(0, 0, 2, 10 * one[1], 10 * one[0], one[3], 0).balances(0, 0, one[3]);
            // What HOLDER 0 gained and keeps, THE HOUSE owes.
            x.is("house(0, 2)", 10 * (one[0] - one[1]) + one[3]).law("gains stay")
                .claims(0, 0, 2, 10 * one[1], 10 * one[0], 10 * one[1], 0);
        }
    }

    private static void gainOfAPenny() {
        // Bought for 100, and it should have been 101.
        Run x = priced("4, a PENNY back", 10000, 10001, 1).claims(0, 0, 2, 0, 1, 0, 0).law("gains back beyond 0")
            .claims(0, 0, 2, 0, 1, -1, 0).is("house(0, 2)", 0).pays(0, 0, 20, 1);
        x.law("gains back beyond 1").claims(0, 0, 2, 0, 1, 0, 0).is("house(0, 2)", 1).pays(0, 40, 20, 1);
    }

    // "A CLAIM above 0 and below least is SMALL"
    private static void smallBelowLeast() {
        for (int least = 98; least <= 102; least++) {
            lost100("4, least").law("least " + least + " to fund").claims(1, 0, 2, 100, 0, 100, least > 100 ? 1 : 0);
        }
        lost100("4, least").law("least 0 to fund").claims(1, 0, 2, 100, 0, 100, 0).law("least 100000 to fund")
            .claims(1, 0, 2, 100, 0, 100, 1);
        // No CLAIM, and one below 0, isn't SMALL.
        lost100("4, least").law("least 100000 to poor").claims(2, 0, 2, 0, 0, 0, 0).claims(3, 0, 2, 0, 0, 0, 0)
            .balances(0, 41, 110);
        priced("4, least", 11000, 10000, -10).law("least 100000 to poor\ngains back beyond 0").claims(0, 0, 2, 0, 100, -100, 0)
            .balances(0, 0, -100, 41, 0);
        priced("4, least", 10001, 10000, 1).law("least 1 to fund").claims(0, 0, 2, 1, 0, 1, 0).law("least 2 to fund")
            .claims(0, 0, 2, 1, 0, 1, 1);
        // What is left of it counts: 100 less 60.
        Run x = Run.ofUnits("4, least", 100).after("trade(0, 0, 1, 0, 1000)", "deal(0, 0, 10, 9)", "deal(0, 0, -6, 9)")
            .is("go(1)", 2).after("trade(0, 0, 1, 0, -1000)");
        x.law("least 41 to fund\ngains back beyond 0").claims(0, 0, 2, 100, 60, 40, 1)
            .law("least 40 to fund\ngains back beyond 0").claims(0, 0, 2, 100, 60, 40, 0);
        x.law("least 41 to fund").claims(0, 0, 2, 100, 60, 100, 0);
        // Of a FEEDER too.
        Run y = new Run("4, least").after("fund(0)", "fund(5000)", "holder(0)", "deal(0, 0, 100, 9)").is("go(1)", 1)
            .after("trade(0, 0, 1, 0, 1000)", "deal(21, 0, 10, 9)").is("go(1)", 2);
        y.after("trade(0, 0, 1, 0, -1000)").claims(21, 0, 2, 100, 0, 100, 0).law("fund 0: least 101 to poor")
            .claims(21, 0, 2, 100, 0, 100, 1).balances(0, 20, -100, 21, 0, 40, 0, 41, 100);
        y.law("fund 1: least 101 to poor").claims(21, 0, 2, 100, 0, 100, 0).balances(0, 20, -100, 21, 100, 40, 0, 41, 0);
    }

    // "it goes to P instead"
    private static void smallToP() {
        Run x = priced("4, SMALL to P", 11000, 10000, 1, 10).claims(0, 0, 2, 10, 0, 10, 0)
            .balances(0, 0, 10, 1, 100, 20, -110, 40, 0, 41, 0).is("house(0, 2)", 0);
        x.law("least 50 to fund").claims(0, 0, 2, 10, 0, 10, 1).is("house(0, 2)", -10)
            .balances(0, 0, 0, 1, 100, 20, -110, 40, 10, 41, 0).pays(0, 20, 1, 100, 20, 40, 10);
        x.law("least 50 to house").is("house(0, 2)", 0).balances(0, 0, 0, 1, 100, 20, -110, 40, 10, 41, 0);
        x.law("least 50 to poor").is("house(0, 2)", 0).balances(0, 0, 0, 1, 100, 20, -110, 40, 0, 41, 10).is("beside(0, 0)", 110);
    }

    // "if gone DAYS at least are over on k since the FOUND DAY"
    private static void goneDaysAreOver() {
        for (int days = 0; days <= 3; days++) {
            Run x = lost100("4, gone " + days + " days").law("gone " + days + " days to house").yes("gone(1)")
                .claims(1, 0, 2, 100, 0, 100, 2).yes("found(0)");
            x.claims(1, 0, 2, 100, 0, 100, days == 0 ? 3 : 2).is("go(4)", 6);
            for (int k = 2; k <= 6; k++) x.claims(1, 0, k, 100, 0, 100, k - 2 >= days ? 3 : 2);
        }
        // 300 DAYS are never over; 257 are, on DAY 259, and 258 aren't.
        for (int days : new int[] {256, 257, 258, 300}) {
            Run x = lost100("4, gone " + days + " days").law("gone " + days + " days to house").yes("gone(1)").yes("found(0)")
                .goTo(259);
            x.claims(1, 0, 259, 100, 0, 100, days <= 257 ? 3 : 2).is("go(1)", 260)
                .claims(1, 0, 259, 100, 0, 100, days <= 257 ? 3 : 2).claims(1, 0, 258, 100, 0, 100, days <= 256 ? 3 : 2);
        }
    }

    // "a HOLDER who is GONE (told, from a DAY on)"
    private static void goneFromADayOn() {
        Run x = lost100("4, GONE").law("gone 1 days to poor").yes("found(0)").is("go(2)", 4).yes("gone(1)").is("go(1)", 5);
        x.claims(1, 0, 2, 100, 0, 100, 0).claims(1, 0, 3, 100, 0, 100, 0).claims(1, 0, 4, 100, 0, 100, 3)
            .claims(1, 0, 5, 100, 0, 100, 3).claims(0, 0, 5, 10, 0, 10, 0);
    }

    // "else it is HELD; not FOUND: HELD"
    private static void goneAndNotFound() {
        Run x = lost100("4, HELD").law("gone 0 days to poor").yes("gone(1)").claims(1, 0, 2, 100, 0, 100, 2).is("go(2)", 4)
            .claims(1, 0, 4, 100, 0, 100, 2);
        // FOUND on DAY 4: ahead of it still HELD.
        x.yes("found(0)").claims(1, 0, 4, 100, 0, 100, 3).claims(1, 0, 3, 100, 0, 100, 2).claims(1, 0, 2, 100, 0, 100, 2);
        // FOUND of another FUND is none.
        Run y = new Run("4, HELD").after("fund(0)", "fund(0)", "holder(0)", "holder(0)", "deal(0, 0, 100, 9)").is("go(1)", 1)
            .after("trade(0, 0, 1, 0, 1000)", "deal(1, 0, 10, 9)").is("go(1)", 2);
        y.after("trade(0, 0, 1, 0, -1000)").law("gone 0 days to poor").yes("gone(1)").yes("found(1)")
            .claims(1, 0, 2, 100, 0, 100, 2).yes("found(0)").claims(1, 0, 2, 100, 0, 100, 3);
    }

    // "goes to P"; "(So that the FUND has its RIGHT CASH, and what is HELD, behind all payments"
    private static void goneToP() {
        Run x = lost100("4, GONE to P").law("gone 0 days to fund\nleast 50 to fund").yes("gone(1)");
        // HOLDER 0 has a SMALL one of 10 that stays in the FUND: it got 110 too much, and HOLDS 100 of them.
        x.claims(0, 0, 2, 10, 0, 10, 1).is("house(0, 2)", -10).balances(0, 0, 0, 1, 0, 20, -10, 40, 10, 41, 0).pays(0, 20, 40, 10)
            .yes("found(0)");
        x.claims(1, 0, 2, 100, 0, 100, 3).is("house(0, 2)", -110).balances(0, 0, 0, 1, 0, 20, -110, 40, 110, 41, 0)
            .pays(0, 20, 40, 110);
        x.law("gone 0 days to house\nleast 50 to fund").is("house(0, 2)", -10).balances(0, 0, 0, 1, 0, 20, -110, 40, 110, 41, 0)
            .pays(0, 20, 40, 110);
        x.law("gone 0 days to poor\nleast 50 to fund").is("house(0, 2)", -10).balances(0, 0, 0, 1, 0, 20, -110, 40, 10, 41, 100)
            .pays(0, 20, 40, 110, 40, 41, 100);
    }

    private static void goneAndSmallOrOwing() {
        Run x = lost100("4, GONE and SMALL").law("gone 0 days to house\nleast 101 to poor").yes("gone(1)")
            .claims(1, 0, 2, 100, 0, 100, 1).yes("found(0)").claims(1, 0, 2, 100, 0, 100, 1).balances(0, 41, 110);
        x.law("gone 0 days to house\nleast 100 to poor").claims(1, 0, 2, 100, 0, 100, 3).balances(0, 41, 10, 40, 100);
        Run y = priced("4, GONE and owing", 11000, 10000, -10).law("gone 0 days to house\ngains back beyond 0").yes("gone(0)")
            .yes("gone(2)").claims(0, 0, 2, 0, 100, -100, 0).balances(0, 0, -100);
        y.claims(2, 0, 2, 0, 0, 0, 0).yes("found(0)").claims(0, 0, 2, 0, 100, -100, 0).claims(2, 0, 2, 0, 0, 0, 0)
            .pays(0, 0, 20, 100);
    }

    private static void goneAtTheEnd() {
        Run x = lost100("4, GONE at the end").law("gone 0 days to house").yes("found(0)").goTo(259);
        x.fork().yes("gone(1)").claims(1, 0, 259, 100, 0, 100, 3).claims(1, 0, 258, 100, 0, 100, 0).is("go(1)", 260)
            .claims(1, 0, 259, 100, 0, 100, 3);
        // Told at 260 it is behind every DAY on which anything is KNOWN.
        x.is("go(1)", 260).yes("gone(1)").claims(1, 0, 259, 100, 0, 100, 0).balances(0, 1, 100);
    }

    // "(both AS KNOWN on k, behind the latest DAY that is over, up to k; as it began, if none is)"
    private static void houseBehindTheLatestDay() {
        Run x = new Run("4, THE HOUSE").after("fund(500)", "holder(0)", "trade(0, 0, 0, 0, 5)", "deal(0, 0, 100, 9)")
            .is("house(0, 0)", 0).is("cash(0, 0)", 500).is("cash(0, 1)", 500);
        x.is("go(1)", 1).is("house(0, 0)", 0).is("house(0, 1)", 0).is("cash(0, 0)", 10505).refuses("house(0, 2)", "house(0, -1)");
        // HOLDER 0 gains 100 on DAY 1, and 200 on DAY 3; both are told on 4.
        Run y = Run.ofUnits("4, THE HOUSE", 100).after("trade(0, 0, 1, 0, 1000)", "deal(0, 0, -10, 9)").is("go(2)", 3)
            .after("deal(0, 0, -20, 9)").is("go(1)", 4).is("booked(0, 3)", 11000);
        y.after("trade(0, 0, 1, 0, -1000)").is("right(0, 1, 4)", 10000).is("right(0, 3, 4)", 10000);
        y.is("house(0, 4)", 300).is("house(0, 3)", 0).is("house(0, 0)", 0).is("go(1)", 5).is("house(0, 5)", 300)
            .is("house(0, 4)", 300).is("house(0, 3)", 0);
        y.is("cash(0, 0)", 6700).is("cash(0, 1)", 7000).balances(0, 0, 0, 20, 300, 40, -300).pays(0, 40, 20, 300);
        // TRADES for a DAY that isn't over are no CASH yet.
        y.after("trade(0, 0, 5, 0, 9)").is("cash(0, 0)", 6700).is("go(1)", 6).is("cash(0, 0)", 6709);
    }

    private static void houseOfFeesAlone() {
        // FEES of DAY 1: 10 BOOKED; by RIGHT 11, and 9. The house may owe less than nothing.
        for (int sign = -1; sign <= 1; sign += 2) {
            Run x = Run.ofUnits("4, FEES", 100).law("fee 1000").is("go(1)", 2).after(Run.call("trade", 0, 0, 1, 0, sign * 1000))
                .is("fee(0, 1, 0)", 10).is("fee(0, 1, 1)", 10 + sign);
            x.is("house(0, 2)", -sign).is("cash(0, 0)", 9990 + sign * 1000).is("cash(0, 1)", 9990 + sign * 999)
                .balances(0, 20, -sign, 40, sign, 0, 0);
            x.pays(0, sign > 0 ? 20 : 40, sign > 0 ? 40 : 20, 1);
        }
    }

    private static void houseOfEachFund() {
        for (int fund = 0; fund < 4; fund++) {
            int self = 20 + fund;
            Run x = new Run("4, FUND " + fund)
                .after("fund(0)", "fund(0)", "fund(0)", "fund(0)", "holder(0)", "holder(0)", Run.call("deal", 0, fund, 100, 9))
                .is("go(1)", 1);
            x.after(Run.call("trade", fund, 0, 1, 0, 1000), Run.call("deal", 1, fund, 10, 9), Run.call("deal", 0, fund, -5, 9))
                .is("go(1)", 2).after(Run.call("trade", fund, 0, 1, 0, -1000));
            for (int other = 0; other < 4; other++) {
                x.is(Run.call("errors", other), other == fund ? 1 : 0).is(Run.call("house", other, 2), other == fund ? 50 : 0)
                    .balances(fund, 20 + other, other == fund ? -50 : 0);
            }
            // HOLDER 1 paid 100 too much, HOLDER 0 keeps 50.
            x.claims(1, fund, 2, 100, 0, 100, 0).claims(0, fund, 2, 0, 50, 0, 0).balances(fund, 0, 0, 1, 100, 40, -50, 41, 0)
                .pays(fund, self, 1, 100, 40, self, 50);
            x.fork().law("least 101 to fund").claims(1, fund, 2, 100, 0, 100, 1).is(Run.call("house", fund, 2), -50)
                .balances(fund, 1, 0, self, -50, 40, 50).pays(fund, self, 40, 50);
            x.law("gone 0 days to fund").yes("gone(1)").claims(1, fund, 2, 100, 0, 100, 2).is(Run.call("house", fund, 2), 50)
                .balances(fund, 1, 0, self, 50, 40, -50).pays(fund, 40, self, 50);
            x.yes(Run.call("found", fund)).claims(1, fund, 2, 100, 0, 100, 3).is(Run.call("house", fund, 2), -50)
                .balances(fund, 1, 0, self, -50, 40, 50).pays(fund, self, 40, 50);
        }
    }

    /** HOLDER 1 has bought 100 UNITS for 10000 on DAY 1; on DAY 2 they sell some at that price. */
    private static Run selling(int price, int tax, int... sales) {
        Run x = Run.ofUnits("4, TAX", 100).after("deal(1, 0, 100, 9)").is("go(1)", 2).law("tax " + tax)
            .after(Run.call("trade", 0, 0, 2, 0, 2 * (price - 10000)));
        for (int n : sales) x.after(Run.call("deal", 1, 0, -n, 9));
        return x.is("go(1)", 3).is("booked(0, 2)", price);
    }

    // "tax .. parts of 100 (cut) of what coins are more than what those UNITS cost"
    private static void taxIsCut() {
        // Price, tax, n: what cost 100 each.
        int[][] all = {{10900, 10, 1, 0}, {11000, 10, 1, 1}, {11900, 10, 1, 1}, {12000, 10, 1, 2}, {10100, 90, 1, 0},
            {10200, 90, 1, 1}, {10100, 90, 10, 9}, {20000, 90, 100, 9000}, {20000, 0, 100, 0},
            {20000, 1, 1, 1}, {19900, 1, 1, 0}, {10000, 90, 100, 0}, {9999, 90, 100, 0}, {9000, 90, 100, 0}, {10001, 90, 100, 0},
                {10002, 90, 100, 1}, {10001, 90, 99, 0}};
        for (int[] one : all) selling(one[0], one[1], one[2]).is("dealt(2, 6)", one[3]).is("dealt(2, 7)", one[3]);
    }

    // "a share of what all its UNITS of that FUND cost till then (coins paid; cut), that is less by it then"
    private static Run shares() {
        Run x = Run.ofUnits("4, TAX of a share", 300).after("trade(0, 0, 1, 0, -20000)", "deal(1, 0, 3, 9)").is("go(1)", 2)
            .is("dealt(1, 4)", 100).law("tax 90");
        return x.after("trade(0, 0, 2, 0, 20200)", "deal(1, 0, -1, 9)", "deal(1, 0, -1, 9)", "deal(1, 0, -1, 9)").is("go(1)", 3)
            .is("booked(0, 2)", 10000);
    }

    private static void taxOfAShare() {
        // 100 for 3: 33, then 33 of 67, then 34. Of 67, 67 and 66 there are 60.3, 60.3 and 59.4.
        shares().is("dealt(2, 6)", 60).is("dealt(3, 6)", 60).is("dealt(4, 6)", 59).is("dealt(2, 7)", 60);
        // Two at once: 66 of 100, and 34 are left.
        Run x = Run.ofUnits("4, TAX of a share", 300).after("trade(0, 0, 1, 0, -20000)", "deal(1, 0, 3, 9)").is("go(1)", 2)
            .law("tax 90").after("trade(0, 0, 2, 0, 20200)", "deal(1, 0, -2, 9)", "deal(1, 0, -5, 9)");
        x.is("go(1)", 3).is("dealt(2, 6)", (200 - 66) * 90 / 100).is("dealt(3, 3)", -1).is("dealt(3, 6)", (100 - 34) * 90 / 100);
        // Bought between: 67 for 2, and 100 for 1 more: 55 of 167.
        Run y = Run.ofUnits("4, TAX of a share", 300).after("trade(0, 0, 1, 0, -20000)", "deal(1, 0, 3, 9)").is("go(1)", 2)
            .law("tax 90");
        y.after("trade(0, 0, 2, 0, 20200)", "deal(1, 0, -1, 9)", "deal(1, 0, 1, 9)", "deal(1, 0, -1, 9)").is("go(1)", 3)
            .is("dealt(4, 6)", (100 - 55) * 90 / 100);
    }

    // "By BOOKED coins, or by RIGHT ones."
    private static void taxByRightCoins() {
        // By RIGHT 3 UNITS cost 300, and go at 166.66 on DAY 2.
        Run x = shares().after("trade(0, 0, 1, 0, 20000)").is("right(0, 1, 3)", 10000).is("right(0, 2, 3)", 16666)
            .is("dealt(1, 5)", 300).is("dealt(2, 5)", 166);
        x.is("dealt(2, 7)", 66 * 90 / 100).is("dealt(3, 7)", 66 * 90 / 100).is("dealt(4, 7)", 66 * 90 / 100).is("dealt(2, 6)", 60)
            .is("dealt(3, 6)", 60).is("dealt(4, 6)", 59);
        // By RIGHT they cost more than they brought.
        Run y = shares().after("trade(0, 0, 1, 0, 20000)", "trade(0, 0, 2, 0, -30000)").is("dealt(2, 5)", 67).is("dealt(2, 7)", 0)
            .is("dealt(2, 6)", 60);
        y.is("dealt(4, 7)", 0);
    }

    private static void taxByTheLawOfItsDay() {
        Run x = Run.ofUnits("4, TAX", 100).law("tax 10").after("trade(0, 0, 1, 0, 10000)", "deal(0, 0, -10, 9)").is("go(1)", 2)
            .law("tax 50").after("deal(0, 0, -10, 9)").is("go(1)", 3).law("tax 90");
        x.is("dealt(1, 6)", 100).is("dealt(2, 6)", 500).is("dealt(1, 7)", 100).is("dealt(2, 7)", 500);
        // THE LAW of the DAY of the DEAL, not of that on which it was made; for its FUND.
        Run y = Run.ofUnits("4, TAX", 100).law("tax 10\ncut 10").after("trade(0, 0, 1, 0, 10000)", "deal(0, 0, -10, 10)")
            .is("go(1)", 2).law("tax 50\nfund 0: tax 30").is("go(1)", 3);
        y.is("dealt(1, 2)", 2).is("dealt(1, 6)", 300);
    }

    private static void taxStartsAnew() {
        // All are sold for 200.00 and bought again for that: then there is no gain.
        Run x = Run.ofUnits("4, TAX", 100).law("tax 90").after("trade(0, 0, 1, 0, 20000)", "deal(1, 0, 100, 9)").is("go(1)", 2)
            .is("booked(0, 1)", 30000);
        x.after("deal(1, 0, -100, 9)", "deal(1, 0, 50, 9)", "deal(1, 0, -50, 9)").is("go(1)", 3).is("booked(0, 2)", 30000)
            .all(0, "dealt(2, 6)", "dealt(4, 6)", "dealt(3, 6)");
        // What others have, and what they have of other FUNDS, is no cost of theirs.
        Run y = new Run("4, TAX").after("fund(0)", "fund(0)", "holder(0)", "holder(0)").law("tax 90\nfund 1: swing 1000 over 0")
            .after("deal(0, 0, 10, 9)", "deal(1, 0, 30, 9)", "deal(0, 1, 20, 9)").is("go(1)", 1);
        y.is("dealt(2, 4)", 2200).after("trade(0, 0, 1, 0, 4000)", "deal(0, 0, -10, 9)").is("go(1)", 2).is("booked(0, 1)", 20000)
            .is("dealt(3, 6)", 900);
    }

    private static void taxOfWhatIsNoSale() {
        Run x = Run.ofUnits("4, TAX", 100).law("tax 90\ncut 10")
            .after("trade(0, 0, 1, 0, 10000)", "deal(0, 0, -10, 9)", "deal(0, 0, 10, 9)", "deal(1, 0, -10, 9)",
            "deal(0, 0, -10, 10)");
        x.all(0, "dealt(1, 6)", "dealt(1, 7)", "dealt(4, 6)", "dealt(4, 7)").is("go(1)", 2).is("dealt(1, 6)", 900)
            .is("dealt(1, 7)", 900).all(0, "dealt(2, 6)", "dealt(2, 7)", "dealt(3, 6)", "dealt(3, 7)");
        // On DAY 2: 9000 for 90 and 2000 for 10: 1100 of 11000 for 10.
        x.all(0, "dealt(4, 6)", "dealt(4, 7)").is("go(1)", 3).is("dealt(4, 6)", 810).is("dealt(4, 7)", 810);
        // A FEEDER pays it, too.
        Run y = new Run("4, TAX").after("fund(0)", "fund(0)").law("tax 50").after("deal(21, 0, 10, 9)").is("go(1)", 1)
            .after("trade(0, 0, 1, 0, 1000)", "deal(21, 0, -5, 9)").is("go(1)", 2).is("dealt(1, 6)", 250);
    }
}
