/** "Terms", mark 3: a DAY of a FUND, from its SPLITS to its DEALS, BOOKED and RIGHT, each boundary on both sides. */
public final class DayEdgesTest {
    public static void main(String[] args) {
        splitsAreCutTowardZero();
        splitsOfOnePaperAlone();
        splitsAreBounded();
        tradesAreBounded();
        tradesGoByNumbers();
        dividendsAreCutTowardZero();
        dividendsStandBetweenSplitsAndTrades();
        daysThatAreNotOpen();
        piecesOfEachFund();
        papersAreCutOneByOne();
        heldFundsAreCutOneByOne();
        feesAreCut();
        noFeeBelowZero();
        pricesAreCut();
        pricesWithoutUnits();
        pricesAreBounded();
        swungAboveOver();
        swungByFlow();
        swungPricesAreCutAndBounded();
        swungWithoutUnits();
        flowIsWhatIsDealt();
        coinsOfDeals();
        nobodySellsMoreThanTheyHave();
        dealsGoByNumbers();
        feedersPayOnThatDay();
        fundsGoByNumbers();
        bookedForGood();
        bookedByWhatWasBooked();
        rightByWhatIsKnown();
        rightSwingsAndFees();
        Run.close();
    }

    /** Tells how many pieces of a PAPER there are, by a DIVIDEND of 1 for each on the DAY ahead. */
    private static Run pieces(Run x, int paper, long want) {
        Run y = x.fork();
        int now = y.many("count(0)");
        int had = y.many("cash(0, 0)");
        y.is("go(1)", now + 1);
        long idle = y.many("cash(0, 0)") - had;
        x.fork().after(Run.call("tell", 2, paper, now, 1)).is("go(1)", now + 1).is("cash(0, 0)", had + idle + want);
        return x;
    }

    // "(1) SPLITS of that DAY: its pieces of that PAPER times SPLIT by 1000 (cut toward 0; .."
    private static void splitsAreCutTowardZero() {
        int[][] all = {{7, 500, 3}, {-7, 500, -3}, {8, 500, 4}, {-8, 500, -4}, {999, 1001, 999}, {1000, 1001, 1001},
            {-999, 1001, -999}, {-1000, 1001, -1001}, {9, 100, 0},
            {-9, 100, 0}, {10, 100, 1}, {-10, 100, -1}, {1, 10000, 10}, {-1, 10000, -10}, {1, 999, 0}, {-1, 999, 0},
                {5, 1000, 5}, {0, 10000, 0}, {10000, 100, 1000}};
        for (int[] one : all) {
            Run x = new Run("3, SPLIT")
                .after("fund(0)", "fund(0)", Run.call("trade", 0, 2, 0, one[0], 0), "trade(0, 3, 0, 77, 0)",
                Run.call("tell", 3, 2, 1, one[1])).is("go(1)", 1);
            pieces(pieces(x, 2, one[2]), 3, 77);
            // On its DAY alone.
            pieces(x.is("go(1)", 2), 2, one[2]);
        }
    }

    private static void splitsOfOnePaperAlone() {
        for (int paper = 1; paper < 8; paper++) {
            Run x = Run.ofUnits("3, SPLIT of one PAPER", 100)
                .after("trade(0, 0, 0, 10, 0)", Run.call("trade", 0, paper, 0, 9000, 0), Run.call("tell", 0, paper, 0, 1),
                "tell(3, 0, 1, 2000)");
            x.is("go(1)", 2).is("booked(0, 1)", 19000).is("right(0, 1, 2)", 19000).is("go(1)", 3).is("booked(0, 2)", 19000);
        }
    }

    /** 100000 pieces (or minus as many) and some more on DAY 1. */
    private static Run manyPieces(int sign, int more) {
        Run x = new Run("3, bounds of pieces")
            .after("fund(0)", Run.call("trade", 0, 0, 0, sign * 10000, 0), "tell(3, 0, 1, 10000)", "tell(3, 0, 2, 10000)");
        return x.is("go(1)", 1).after(Run.call("trade", 0, 0, 1, more, 0)).is("go(1)", 2);
    }

    // "-1000000 .. 1000000, the nearer end"
    private static void splitsAreBounded() {
        pieces(manyPieces(1, -1), 0, 999990);
        pieces(manyPieces(1, 0), 0, 1000000);
        pieces(manyPieces(1, 1), 0, 1000000);
        pieces(manyPieces(1, 10000), 0, 1000000);
        pieces(manyPieces(-1, 1), 0, -999990);
        pieces(manyPieces(-1, 0), 0, -1000000);
        pieces(manyPieces(-1, -1), 0, -1000000);
        pieces(manyPieces(-1, -10000), 0, -1000000);
        // What is beyond is lost: a SPLIT to a tenth tells.
        pieces(manyPieces(1, 10000).is("go(1)", 3).after("tell(3, 0, 3, 100)"), 0, 100000);
        pieces(manyPieces(-1, -10000).is("go(1)", 3).after("tell(3, 0, 3, 100)"), 0, -100000);
    }

    // "(3) TRADES for that DAY, by numbers (pieces bounded likewise)."
    private static void tradesAreBounded() {
        for (int sign = -1; sign <= 1; sign += 2) {
            Run x = manyPieces(sign, 0).is("go(1)", 3);
            pieces(x.fork().after(Run.call("trade", 0, 0, 3, sign, 0)).is("go(1)", 4), 0, sign * 1000000);
            pieces(x.fork().after(Run.call("trade", 0, 0, 3, -sign, 0)).is("go(1)", 4), 0, sign * 999999);
            pieces(x.fork().after(Run.call("trade", 0, 0, 3, sign, 0), Run.call("trade", 0, 0, 3, -sign, 0))
                .is("go(1)", 4), 0, sign * 999999);
            pieces(x.fork().after(Run.call("trade", 0, 0, 3, -sign, 0), Run.call("trade", 0, 0, 3, sign, 0))
                .is("go(1)", 4), 0, sign * 1000000);
            pieces(x.fork().after(Run.call("trade", 0, 0, 3, sign * 10000, 7)).is("go(1)", 4)
                .is("cash(0, 0)", 7), 0, sign * 1000000);
        }
    }

    private static void tradesGoByNumbers() {
        // Told for DAY 4 ahead of those for DAY 3; on each DAY by numbers.
        Run x = manyPieces(1, 0).is("go(2)", 4);
        x.after("trade(0, 0, 4, 500, 0)", "trade(0, 0, 4, -300, 0)", "trade(0, 0, 3, -100, 0)", "trade(0, 0, 3, 200, 0)")
            .is("go(1)", 5);
        // DAY 3: 999900, then a million; DAY 4: a million, then 999700.
        pieces(x, 0, 999700);
    }

    // "(2) DIVIDENDS: pieces times DIVIDEND times RATE by 1000 (cut toward 0) come to CASH."
    private static void dividendsAreCutTowardZero() {
        // Pieces, DIVIDEND, RATE, and what comes: the product is cut, not one of its parts.
        int[][] all = {{3, 1, 1999, 5}, {-3, 1, 1999, -5}, {1, 1, 999, 0}, {-1, 1, 999, 0}, {1, 1, 1000, 1}, {1, 1, 1001, 1},
            {2, 1, 500, 1}, {-2, 1, 500, -1}, {1, 3, 500, 1},
            {7, 0, 9999, 0}, {10000, 1000, 9999, 99990000}, {-10000, 1000, 9999, -99990000}, {999, 1, 1, 0}, {1000, 1, 1, 1}};
        for (int[] one : all) {
            Run x = new Run("3, DIVIDEND").yes("paper(2, 1)")
                .after("fund(5)", Run.call("tell", 1, 1, 0, one[2]), Run.call("trade", 0, 2, 0, one[0], 0)).is("go(1)", 1);
            x.after(Run.call("tell", 2, 2, 1, one[1])).is("go(1)", 2).is("cash(0, 0)", 5 + one[3]).is("cash(0, 1)", 5 + one[3])
                .is("go(1)", 3).is("cash(0, 0)", 5 + one[3]);
        }
        // PAPERS are cut one by one.
        Run x = new Run("3, DIVIDEND").yes("paper(0, 1)").yes("paper(1, 2)")
            .after("fund(0)", "tell(1, 1, 0, 1500)", "tell(1, 2, 0, 1500)", "trade(0, 0, 0, 1, 0)", "trade(0, 1, 0, 1, 0)");
        x.is("go(1)", 1).after("tell(2, 0, 1, 1)", "tell(2, 1, 1, 1)").is("go(1)", 2).is("cash(0, 0)", 2);
    }

    private static void dividendsStandBetweenSplitsAndTrades() {
        Run x = new Run("3, order of a DAY").after("fund(0)", "trade(0, 0, 0, 10, 0)").is("go(1)", 1);
        x.after("tell(2, 0, 1, 1)", "trade(0, 0, 1, 5, 0)", "tell(3, 0, 1, 2000)").is("go(1)", 2).is("cash(0, 0)", 20);
        x.after("tell(2, 0, 2, 1)").is("go(1)", 3).is("cash(0, 0)", 45);
        // A late TELLING for DAY 0 comes ahead of its TRADE.
        x.after("tell(2, 0, 0, 1000)", "tell(3, 0, 0, 10000)").is("cash(0, 0)", 45).is("cash(0, 1)", 45);
        // The SPLIT of DAY 2 comes behind DAY 1, and ahead of the DIVIDEND of DAY 2.
        x.after("tell(3, 0, 2, 3000)").is("cash(0, 1)", 20 + 75);
        // ASSETS of a DAY are by its SPLITS, DIVIDENDS and TRADES.
        Run y = Run.ofUnits("3, order of a DAY", 100).after("trade(0, 0, 1, 10, -50)", "tell(0, 0, 1, 7)").is("go(1)", 2)
            .is("booked(0, 1)", 10020);
        y.after("tell(3, 0, 2, 2000)", "tell(2, 0, 2, 1)").is("go(1)", 3).is("booked(0, 2)", 9950 + 20 + 140);
    }

    // "(also on DAYS that aren't OPEN but for 4 to 6)"
    private static void daysThatAreNotOpen() {
        Run x = Run.ofUnits("3, DAYS not OPEN", 100).law("fee 1000").yes("holiday(8)").goTo(5);
        // FEES of DAYS 1 to 4: 10, 9, 9, 9.
        x.is("cash(0, 0)", 9963).after("trade(0, 0, 5, 10, -3)").is("go(1)", 6).is("cash(0, 0)", 9960);
        x.after("tell(2, 0, 6, 5)", "tell(3, 0, 6, 2000)").is("go(1)", 7).is("cash(0, 0)", 9960 + 100)
            .refuses("booked(0, 5)", "booked(0, 6)", "fee(0, 5, 0)", "fee(0, 6, 1)");
        x.is("go(1)", 8).is("fee(0, 7, 0)", 10).is("booked(0, 7)", 10050).after("tell(2, 0, 8, 1)", "trade(0, 0, 8, 1, 0)")
            .is("go(1)", 9);
        x.is("cash(0, 0)", 10050 + 20).refuses("booked(0, 8)", "fee(0, 8, 0)").is("cash(0, 1)", 10050 + 20).is("errors(0)", 0);
    }

    // "its pieces of that PAPER": those of each FUND
    private static void piecesOfEachFund() {
        Run x = new Run("3, pieces").after("fund(0)", "fund(0)", "fund(0)", "fund(0)", "holder(0)", "tell(0, 7, 0, 7)");
        for (int fund = 0; fund < 4; fund++) {
            x.after(Run.call("deal", 0, fund, 100, 9), Run.call("trade", fund, 7, 0, 10 * (fund + 1), 0));
        }
        x.is("go(2)", 2).after("tell(3, 7, 2, 2000)", "tell(2, 7, 2, 1)").is("go(1)", 3);
        for (int fund = 0; fund < 4; fund++) {
            int tens = fund + 1;
            x.is(Run.call("booked", fund, 1), 10000 + 70 * tens).is(Run.call("booked", fund, 2), 10000 + 160 * tens)
                .is(Run.call("cash", fund, 0), 10000 + 20 * tens);
            x.is(Run.call("right", fund, 1, 3), 10000 + 70 * tens).is(Run.call("right", fund, 2, 3), 10000 + 160 * tens)
                .is(Run.call("errors", fund), 0);
        }
    }

    // "(4) ASSETS: CASH, pieces times PRICE times RATE by 1000 (cut toward 0) of each PAPER"
    private static void papersAreCutOneByOne() {
        // Pieces of PAPER 0 and 1, PRICE, RATE of both, and what they are worth.
        int[][] all = {{1, 1, 1, 1500, 2}, {-1, -1, 1, 1500, -2}, {1, -1, 1, 1500, 0}, {3, 0, 1, 1500, 4}, {-3, 0, 1, 1500, -4},
            {1, 1, 3, 500, 2}, {1, 1, 1, 999, 0}, {-1, -1, 1, 999, 0},
            {1, 1, 1, 1000, 2}, {1000, 1, 1, 1, 1}, {999, 999, 1, 1, 0}, {1, 0, 10000, 9999, 99990}, {0, 0, 10000, 9999, 0}};
        for (int[] one : all) {
            Run x = new Run("3, ASSETS").yes("paper(0, 1)").yes("paper(1, 1)").after("fund(0)", "holder(0)", "deal(0, 0, 100, 9)")
                .is("go(1)", 1);
            for (int paper = 0; paper < 2; paper++) {
                x.after(Run.call("tell", 0, paper, 1, one[2]), Run.call("trade", 0, paper, 1, one[paper], 0));
            }
            x.after(Run.call("tell", 1, 1, 1, one[3])).is("go(1)", 2).is("booked(0, 1)", 10000 + one[4]);
        }
        // Without a PRICE a PAPER is worth nothing.
        Run.ofUnits("3, ASSETS", 100).after("trade(0, 0, 1, 10000, 0)").is("go(1)", 2).is("booked(0, 1)", 10000);
        Run.ofUnits("3, ASSETS", 100).after("trade(0, 7, 1, 10, 0)", "tell(0, 7, 1, 3)", "trade(0, 6, 1, 10, 0)").is("go(1)", 2)
            .is("booked(0, 1)", 10030);
    }

    // "UNITS of FUNDS held times their price of that DAY by 100 (cut)"
    private static void heldFundsAreCutOneByOne() {
        Run x = new Run("3, FUNDS held").after("fund(0)", "fund(0)", "fund(1000)", "holder(0)");
        x.after("deal(0, 0, 1, 9)", "deal(22, 0, 1, 9)", "deal(0, 1, 1, 9)", "deal(22, 1, 1, 9)", "deal(0, 2, 10, 9)")
            .is("go(1)", 1);
        x.is("cash(0, 0)", 200).is("cash(1, 0)", 200).is("cash(2, 0)", 1000 - 200 + 1000)
            .after("trade(0, 0, 1, 0, -197)", "trade(1, 0, 1, 0, -197)").is("go(1)", 2);
        // 1.50 each: 1 and 1.
        x.is("booked(0, 1)", 150).is("booked(1, 1)", 150).is("booked(2, 1)", 18020);
        x.after("trade(0, 0, 2, 0, 1)").is("go(1)", 3).is("booked(0, 2)", 200).is("booked(2, 2)", 18030)
            .after("trade(0, 0, 3, 0, -3)").is("go(1)", 4);
        x.is("booked(0, 3)", 50).is("booked(1, 3)", 150).is("booked(2, 3)", 18010);
    }

    // "FEE is ASSETS times fee by 1000000 (cut; ..): it goes from CASH to the HOUSE."
    private static void feesAreCut() {
        int[][] all = {{199, 5000, 0}, {200, 5000, 1}, {399, 5000, 1}, {400, 5000, 2}, {10000, 0, 0}, {10000, 99, 0},
            {10000, 100, 1}, {10000, 199, 1}, {1, 5000, 0}, {0, 5000, 0}};
        for (int[] one : all) {
            Run x = Run.ofUnits("3, FEE", 100).law("fee " + one[1]).after(Run.call("trade", 0, 0, 1, 0, one[0] - 10000))
                .is("go(1)", 2);
            x.is("fee(0, 1, 0)", one[2]).is("fee(0, 1, 1)", one[2]).is("booked(0, 1)", one[0] - one[2])
                .is("cash(0, 0)", one[0] - one[2]).is("cash(0, 1)", one[0] - one[2]);
        }
    }

    // "0, if ASSETS are below 0"
    private static void noFeeBelowZero() {
        for (int assets : new int[] {-1, -200, -10000, -90000000}) {
            Run x = Run.ofUnits("3, FEE", 100).law("fee 5000").after(Run.call("trade", 0, 0, 1, 0, assets - 10000))
                .is("go(1)", 2);
            x.is("fee(0, 1, 0)", 0).is("fee(0, 1, 1)", 0).is("booked(0, 1)", 0).is("cash(0, 0)", assets).is("cash(0, 1)", assets);
        }
        // Also of a FUND without UNITS there is a FEE.
        new Run("3, FEE").after("fund(1000)").law("fee 5000").is("go(1)", 1).is("fee(0, 0, 0)", 5).is("cash(0, 0)", 995)
            .is("booked(0, 0)", 10000);
    }

    // "(5) The price, in hundredths of PENCE: what ASSETS are less FEE, times 100, by UNITS of all (cut; .."
    private static void pricesAreCut() {
        int[][] all = {{3, 100, 3333}, {3, 99, 3300}, {3, 101, 3366}, {7, 1, 14}, {101, 1, 0}, {100, 1, 1}, {99, 1, 1},
            {51, 1, 1}, {200, 1, 0}, {200, 2, 1}, {200, 3, 1}};
        for (int[] one : all) {
            Run.ofUnits("3, price", one[0]).after(Run.call("trade", 0, 0, 1, 0, one[1] - 100 * one[0])).is("go(1)", 2)
                .is("booked(0, 1)", one[2]).is("right(0, 1, 2)", one[2]);
        }
        // Less FEE: 3 UNITS, ASSETS 1000, FEE 5.
        Run.ofUnits("3, price", 3).law("fee 5000").after("trade(0, 0, 1, 0, 700)").is("go(1)", 2).is("booked(0, 1)", 33166);
    }

    // "10000, if there are none"
    private static void pricesWithoutUnits() {
        for (int cash : new int[] {0, 1, 100000000}) {
            new Run("3, no UNITS").after(Run.call("fund", cash)).is("go(1)", 1).is("booked(0, 0)", 10000);
        }
        Run x = Run.ofUnits("3, no UNITS", 100).after("trade(0, 0, 1, 0, 5000)", "deal(0, 0, -99, 9)").is("go(1)", 2)
            .is("booked(0, 1)", 15000);
        x.after("deal(0, 0, -1, 9)").is("go(1)", 3).is("booked(0, 2)", 15000).is("count(20)", 0).after("trade(0, 0, 3, 0, 777)")
            .is("go(1)", 4);
        x.is("cash(0, 0)", 777).is("booked(0, 3)", 10000).after("trade(0, 0, 4, 0, -10000)").is("go(1)", 5)
            .is("booked(0, 4)", 10000).is("right(0, 4, 5)", 10000);
        x.is("go(2)", 7).after("deal(1, 0, 1, 9)").is("go(1)", 8).is("booked(0, 7)", 10000).is("dealt(3, 4)", 100).is("go(1)", 9)
            .is("booked(0, 8)", 0);
    }

    // "0 .. 10000000, the nearer end"
    private static void pricesAreBounded() {
        int[][] all = {{1, 99999, 9999900}, {1, 100000, 10000000}, {1, 100001, 10000000}, {1, 90000000, 10000000},
            {2, 199999, 9999950}, {2, 200000, 10000000}, {2, 200001, 10000000},
            {100, 1, 1}, {100, 0, 0}, {100, -1, 0}, {1, -1, 0}, {1, -90000000, 0}, {3, -1, 0}};
        for (int[] one : all) {
            Run x = Run.ofUnits("3, bounds of prices", one[0]).is("go(1)", 2)
                .after(Run.call("trade", 0, 0, 2, 0, one[1] - 100 * one[0])).is("go(1)", 3);
            x.is("booked(0, 2)", one[2]).is("right(0, 2, 3)", one[2]);
        }
    }

    /** A FUND of 100 UNITS with a LAW on DAY 1, and a DEAL of HOLDER 0 of n UNITS. */
    private static Run flow(String law, int n) {
        return Run.ofUnits("3, SWUNG by " + n + ", " + law, 100).law(law).after(Run.call("deal", 0, 0, n, 9)).is("go(1)", 2);
    }

    // "if 10000 times it (or times -1) is above over times UNITS of all"
    private static void swungAboveOver() {
        int[][] all = {{5000, 50, 51}, {1000, 10, 11}, {1, 0, 1}, {99, 0, 1}, {100, 1, 2}, {101, 1, 2}, {199, 1, 2}, {200, 2, 3},
            {10000, 100, 101}, {9999, 99, 100}, {0, 0, 1}};
        for (int[] one : all) {
            String law = "swing 1000 over " + one[0];
            if (one[1] > 0) {
                flow(law, one[1]).is("booked(0, 1)", 10000).is("right(0, 1, 2)", 10000);
                flow(law, -one[1]).is("booked(0, 1)", 10000).is("right(0, 1, 2)", 10000);
            }
            flow(law, one[2]).is("booked(0, 1)", 11000).is("right(0, 1, 2)", 11000);
            if (one[2] <= 100) flow(law, -one[2]).is("booked(0, 1)", 9000).is("right(0, 1, 2)", 9000);
        }
        // A FLOW of 0 is above nothing.
        flow("swing 1000 over 0", 1).after("deal(0, 0, 5, 9)", "deal(0, 0, -5, 9)").is("go(1)", 3).is("booked(0, 2)", 10009);
        Run.ofUnits("3, SWUNG", 100).law("swing 1000 over 0").is("go(1)", 2).is("booked(0, 1)", 10000);
        // Told nothing, it is over 10000, and by 0.
        flow("fee 0", 101).is("booked(0, 1)", 10000);
        flow("swing 0 over 0", 101).is("booked(0, 1)", 10000);
    }

    // "FLOW is UNITS bought less sold by DEALS for that DAY"
    private static void swungByFlow() {
        // 60 come and 50 go: 10 of 100; 61 and 50: 11.
        Run.ofUnits("3, FLOW", 100).law("swing 1000 over 1000").after("deal(1, 0, 60, 9)", "deal(0, 0, -50, 9)").is("go(1)", 2)
            .is("booked(0, 1)", 10000);
        Run.ofUnits("3, FLOW", 100).law("swing 1000 over 1000").after("deal(1, 0, 61, 9)", "deal(0, 0, -50, 9)").is("go(1)", 2)
            .is("booked(0, 1)", 11000);
        Run.ofUnits("3, FLOW", 100).law("swing 1000 over 1000").after("deal(1, 0, 50, 9)", "deal(0, 0, -60, 9)").is("go(1)", 2)
            .is("booked(0, 1)", 10000);
        Run.ofUnits("3, FLOW", 100).law("swing 1000 over 1000").after("deal(1, 0, 50, 9)", "deal(0, 0, -61, 9)").is("go(1)", 2)
            .is("booked(0, 1)", 9000);
        // DEALS for other DAYS, and of other FUNDS, don't count.
        Run x = new Run("3, FLOW").after("fund(0)", "fund(0)", "holder(0)", "deal(0, 0, 100, 9)", "deal(0, 1, 100, 9)")
            .is("go(1)", 1).law("swing 1000 over 0\ncut 10");
        x.after("deal(0, 0, 5, 10)", "deal(0, 1, 5, 9)").is("go(1)", 2).is("booked(0, 1)", 10000).is("booked(1, 1)", 11000)
            .is("go(1)", 3).is("booked(0, 2)", 11000);
    }

    // "the price is price times 10000 and swing (less swing, if FLOW is below 0) by 10000 (cut; at most 10000000)"
    private static void swungPricesAreCutAndBounded() {
        // ASSETS of 3 UNITS, swing, and the price up and down.
        int[][] all = {{100, 5, 3334, 3331}, {100, 1, 3333, 3332}, {100, 3, 3333, 3332}, {100, 4, 3334, 3331},
            {100, 1000, 3666, 2999}, {0, 1000, 0, 0}, {300, 0, 10000, 10000},
            {300, 1, 10001, 9999}, {299997, 1, 10000000, 9998900}, {300000, 1000, 10000000, 9000000},
                {90000000, 1000, 10000000, 9000000}, {-5, 1000, 0, 0}};
        for (int[] one : all) {
            for (int n = -1; n <= 1; n += 2) {
                Run x = Run.ofUnits("3, SWUNG", 3).law("swing " + one[1] + " over 0")
                    .after(Run.call("trade", 0, 0, 1, 0, one[0] - 300), Run.call("deal", 0, 0, n, 9)).is("go(1)", 2);
                x.is("booked(0, 1)", one[n > 0 ? 2 : 3]).is("right(0, 1, 2)", one[n > 0 ? 2 : 3]);
            }
        }
        // 1 UNIT: 99991 times 1.0001 is 100000.99, and 99990 times 1.0001 is 99999.999.
        Run.ofUnits("3, SWUNG", 1).law("swing 1 over 0").after("trade(0, 0, 1, 0, 99891)", "deal(0, 0, 1, 9)").is("go(1)", 2)
            .is("booked(0, 1)", 10000000);
        Run.ofUnits("3, SWUNG", 1).law("swing 1 over 0").after("trade(0, 0, 1, 0, 99890)", "deal(0, 0, 1, 9)").is("go(1)", 2)
            .is("booked(0, 1)", 9999999);
    }

    private static void swungWithoutUnits() {
        for (int over : new int[] {0, 10000}) {
            Run x = new Run("3, SWUNG").after("fund(0)", "holder(0)").law("swing 1000 over " + over).after("deal(0, 0, 1, 9)")
                .is("go(1)", 1).is("booked(0, 0)", 11000).is("dealt(0, 4)", 110);
            x.is("go(1)", 2).is("booked(0, 1)", 11000);
            new Run("3, SWUNG").after("fund(0)", "holder(0)").law("swing 1000 over " + over).after("deal(0, 0, -1, 9)")
                .is("go(1)", 1).is("booked(0, 0)", 10000);
        }
    }

    // "(as much as is dealt)"
    private static void flowIsWhatIsDealt() {
        Run x = Run.ofUnits("3, FLOW", 100).law("swing 1000 over 1000").after("deal(0, 0, -10, 9)").is("go(1)", 2)
            .is("booked(0, 1)", 10000);
        // HOLDER 1 has 9: all that can go.
        x = Run.ofUnits("3, FLOW", 91).after("deal(1, 0, 9, 9)").is("go(1)", 2).law("swing 1000 over 900");
        x.fork().after("deal(1, 0, -10000, 9)").is("go(1)", 3).is("booked(0, 2)", 10000).is("dealt(2, 3)", -9);
        x.fork().after("deal(1, 0, -10000, 9)", "deal(0, 0, -1, 9)").is("go(1)", 3).is("booked(0, 2)", 9000);
        x.fork().after("deal(2, 0, -10000, 9)").is("go(1)", 3).is("booked(0, 2)", 10000).is("dealt(2, 3)", 0)
            .is("dealt(2, 4)", 0);
        x.fork().after("deal(1, 0, -10000, 9)", "deal(1, 0, -10000, 9)", "deal(1, 0, 1, 9)", "deal(1, 0, -10000, 9)")
            .is("go(1)", 3).is("booked(0, 2)", 10000);
    }

    // "(6) .. what is bought comes, n times the price by 100 (cut, a begun PENNY more) .. sold .. n times price by 100 (cut)"
    private static void coinsOfDeals() {
        // n, and coins at 33.33 when bought and when sold.
        int[][] all = {{1, 34, 33}, {2, 67, 66}, {3, 100, 99}, {100, 3333, 3333}, {99, 3300, 3299}, {101, 3367, 3366},
            {300, 9999, 9999}};
        for (int[] one : all) {
            Run x = Run.ofUnits("3, coins", 300).after("trade(0, 0, 1, 0, -20000)", Run.call("deal", 1, 0, one[0], 9))
                .is("go(1)", 2).is("booked(0, 1)", 3333);
            x.is("dealt(1, 3)", one[0]).is("dealt(1, 4)", one[1]).is("dealt(1, 5)", one[1]).is("cash(0, 0)", 10000 + one[1])
                .is("cash(0, 1)", 10000 + one[1]).is("units(1, 0)", one[0]);
            Run y = Run.ofUnits("3, coins", 300).after("trade(0, 0, 1, 0, -20000)", Run.call("deal", 0, 0, -one[0], 9))
                .is("go(1)", 2).is("booked(0, 1)", 3333);
            y.is("dealt(1, 3)", -one[0]).is("dealt(1, 4)", one[2]).is("dealt(1, 5)", one[2]).is("cash(0, 0)", 10000 - one[2])
                .is("cash(0, 1)", 10000 - one[2]).is("units(0, 0)", 300 - one[0]);
        }
        // At 0.01: a begun PENNY for a single UNIT, and none for one that is sold; at 0 nothing either way.
        Run x = Run.ofUnits("3, coins", 100)
            .after("trade(0, 0, 1, 0, -9999)", "deal(1, 0, 1, 9)", "deal(0, 0, -1, 9)", "deal(0, 0, -99, 9)").is("go(1)", 2);
        x.is("booked(0, 1)", 1).is("dealt(1, 4)", 1).is("dealt(2, 4)", 0).is("dealt(3, 4)", 0).is("cash(0, 0)", 2);
        Run y = Run.ofUnits("3, coins", 100).after("trade(0, 0, 1, 0, -10000)", "deal(1, 0, 10000, 9)", "deal(0, 0, -100, 9)")
            .is("go(1)", 2);
        y.is("booked(0, 1)", 0).is("dealt(1, 4)", 0).is("dealt(2, 4)", 0).is("cash(0, 0)", 0).is("units(1, 0)", 10000);
        // The most there can be.
        Run z = Run.ofUnits("3, coins", 1).after("trade(0, 0, 1, 0, 99900)", "deal(1, 0, 10000, 9)").is("go(1)", 2)
            .is("dealt(1, 4)", 1000000000).after("deal(1, 0, -10000, 9)");
        z.is("go(1)", 3).is("dealt(2, 4)", 1000000000).is("cash(0, 0)", 100000);
    }

    // "of what is sold as many as WHO has then go"
    private static void nobodySellsMoreThanTheyHave() {
        int[][] all = {{-99, -99}, {-100, -100}, {-101, -100}, {-10000, -100}};
        for (int[] one : all) {
            Run x = Run.ofUnits("3, sold", 100).after(Run.call("deal", 0, 0, one[0], 9)).is("dealt(1, 3)", 0).is("go(1)", 2)
                .is("dealt(1, 3)", one[1]);
            x.is("dealt(1, 4)", -one[1] * 100L).is("units(0, 0)", 100 + one[1]).is("count(20)", 100 + one[1]);
        }
        // Of this FUND, by this WHO.
        Run x = new Run("3, sold").after("fund(0)", "fund(0)", "holder(0)", "holder(0)", "deal(0, 0, 5, 9)", "deal(1, 1, 7, 9)")
            .is("go(1)", 1);
        x.after("deal(1, 0, -9, 9)", "deal(0, 1, -9, 9)", "deal(1, 1, -9, 9)").is("go(1)", 2).is("dealt(2, 3)", 0)
            .is("dealt(3, 3)", 0).is("dealt(4, 3)", -7);
    }

    // "DEALS for that DAY, by numbers"
    private static void dealsGoByNumbers() {
        Run x = Run.ofUnits("3, DEALS by numbers", 100)
            .after("deal(0, 0, -60, 9)", "deal(0, 0, -60, 9)", "deal(0, 0, -60, 9)", "deal(0, 0, 5, 9)", "deal(0, 0, -60, 9)")
            .is("go(1)", 2);
        x.is("dealt(1, 3)", -60).is("dealt(2, 3)", -40).is("dealt(3, 3)", 0).is("dealt(4, 3)", 5).is("dealt(5, 3)", -5)
            .is("units(0, 0)", 0).is("count(20)", 0);
        // One for a later DAY stands behind, though its number is less.
        Run y = Run.ofUnits("3, DEALS by numbers", 100).law("cut 10").after("deal(0, 0, -80, 10)", "deal(0, 0, -50, 9)")
            .is("go(2)", 3);
        y.is("dealt(1, 2)", 2).is("dealt(1, 3)", -50).is("dealt(2, 2)", 1).is("dealt(2, 3)", -50);
    }

    // "(A FEEDER's CASH pays and gets that, likewise, on that DAY, ahead of its own (4).)"
    private static void feedersPayOnThatDay() {
        Run x = new Run("3, FEEDER").after("fund(0)", "fund(1000)", "holder(0)", "deal(0, 0, 3, 9)", "deal(0, 1, 10, 9)")
            .is("go(1)", 1).after("trade(0, 0, 1, 0, -200)");
        x.after("deal(21, 0, 1, 9)").is("go(1)", 2).is("booked(0, 1)", 3333).is("dealt(2, 4)", 34);
        // It pays 34 for what is worth 33.
        x.is("cash(1, 0)", 2000 - 34).is("booked(1, 1)", (2000 - 34 + 33) * 10).is("cash(0, 0)", 134);
        x.after("deal(21, 0, -9, 9)").is("go(1)", 3).is("booked(0, 2)", 3350).is("dealt(3, 3)", -1).is("dealt(3, 4)", 33)
            .is("cash(1, 0)", 1999).is("booked(1, 2)", 19990).is("units(21, 0)", 0);
        // Its CASH may go below 0.
        Run y = new Run("3, FEEDER").after("fund(0)", "fund(0)", "deal(21, 0, 10000, 9)").is("go(1)", 1)
            .is("cash(1, 0)", -1000000).is("cash(0, 0)", 1000000).is("booked(1, 0)", 10000);
        y.is("cash(1, 1)", -1000000).is("units(21, 0)", 10000);
    }

    // "FUNDS go by numbers, each with all of its DAY."
    private static void fundsGoByNumbers() {
        Run x = new Run("3, chain of FEEDERS").after("fund(0)", "fund(0)", "fund(0)", "fund(0)", "holder(0)");
        x.after("deal(21, 0, 100, 9)", "deal(22, 1, 100, 9)", "deal(23, 2, 100, 9)", "deal(0, 3, 100, 9)").is("go(1)", 1);
        // Each gets 10000 and pays them on.
        for (int fund = 0; fund < 4; fund++) {
            x.is(Run.call("booked", fund, 0), 10000).is(Run.call("cash", fund, 0), fund == 0 ? 10000 : 0);
        }
        x.after("trade(0, 0, 1, 0, 77)").is("go(1)", 2);
        for (int fund = 0; fund < 4; fund++) x.is(Run.call("booked", fund, 1), 10077);
        x.after("trade(0, 0, 1, 0, 23)");
        for (int fund = 0; fund < 4; fund++) {
            x.is(Run.call("right", fund, 1, 2), 10100).is(Run.call("error", fund, 1, 2), -23)
                .is(Run.call("booked", fund, 1), 10077);
        }
    }

    // "price, FEE, coins of each DEAL of that DAY are BOOKED then for good"
    private static void bookedForGood() {
        Run x = Run.ofUnits("3, BOOKED", 100).law("fee 1000").after("deal(1, 0, 10, 9)").is("go(1)", 2).is("booked(0, 1)", 9990)
            .is("fee(0, 1, 0)", 10).is("dealt(1, 4)", 999);
        x.after("trade(0, 0, 1, 0, 10000)", "trade(0, 0, 0, 5, 0)", "tell(0, 0, 0, 9)").law("fee 5000");
        for (int now = 3; now < 6; now++) {
            x.is("booked(0, 1)", 9990).is("fee(0, 1, 0)", 10).is("dealt(1, 4)", 999).is("dealt(1, 3)", 10).is("go(1)", now);
        }
        x.is("right(0, 1, 5)", 20025).is("fee(0, 1, 1)", 20).is("dealt(1, 5)", 2003);
    }

    // "by all KNOWN on it, DAYS ahead gone through anew by that, but DEALS of DAYS ahead in coins as they were BOOKED, and FEES as they were BOOKED"
    private static void bookedByWhatWasBooked() {
        Run x = Run.ofUnits("3, BOOKED", 100).law("fee 1000").after("deal(1, 0, 10, 9)").is("go(1)", 2)
            .after("trade(0, 0, 1, 0, 10000)").is("go(1)", 3);
        // 10000 and 10000 come, less a FEE of 10, and 999 for 10 UNITS; on DAY 2 a FEE of 20.
        x.is("booked(0, 2)", (20989 - 20) * 100 / 110).is("fee(0, 2, 0)", 20).is("cash(0, 0)", 20969);
        // By RIGHT a FEE of 20 and 1998 for 10 UNITS; then 21.
        x.is("right(0, 1, 3)", 19980).is("right(0, 2, 3)", (21978 - 21) * 100 / 110).is("cash(0, 1)", 21957);
    }

    // "RIGHT, AS KNOWN on k, of DAYS up to k: .. (UNITS as they were dealt); FUNDS held at their RIGHT prices"
    private static void rightByWhatIsKnown() {
        Run x = Run.ofUnits("3, RIGHT", 100).after("deal(0, 0, -200, 9)", "deal(1, 0, 50, 9)").is("go(1)", 2)
            .is("dealt(1, 3)", -100).after("trade(0, 0, 1, 0, -10000)");
        // At 0 as many UNITS go and come.
        x.is("right(0, 1, 2)", 0).is("dealt(1, 3)", -100).is("dealt(1, 5)", 0).is("dealt(2, 5)", 0).is("units(1, 0)", 50)
            .is("go(1)", 3).is("right(0, 1, 1)", 10000);
        x.is("right(0, 2, 2)", 0).is("booked(0, 2)", 0);
        Run y = new Run("3, RIGHT").after("fund(0)", "fund(0)", "holder(0)", "deal(0, 0, 100, 9)", "deal(0, 1, 100, 9)")
            .is("go(1)", 1).after("deal(21, 0, 50, 9)").is("go(2)", 3);
        y.after("trade(0, 0, 1, 0, 1000)").is("right(0, 1, 2)", 10000).is("right(1, 1, 2)", 10000);
        // By RIGHT it would have paid 5500 for what is worth 5500: then and later the FEEDER's price is as it was.
        y.is("right(0, 1, 3)", 11000).is("right(1, 1, 3)", 10000).is("right(0, 2, 3)", 11000).is("right(1, 2, 3)", 10000)
            .is("cash(1, 0)", 5000).is("cash(1, 1)", 4500);
        // Held at the BOOKED price the FEEDER would be of 9500; DAY 3 is BOOKED by coins as they were.
        y.is("go(1)", 4).is("booked(0, 3)", (10000 + 1000 + 5000) * 100 / 150).is("booked(1, 3)", 5000 + 5333);
    }

    // "FLOW as it was, SWINGS, FEES by THE LAW of that DAY"
    private static void rightSwingsAndFees() {
        Run x = Run.ofUnits("3, RIGHT", 100).law("swing 1000 over 500\nfee 1000").after("deal(1, 0, 6, 9)").is("go(1)", 2)
            .law("swing 500 over 2000\nfee 2000").after("trade(0, 0, 1, 0, 10000)");
        x.is("booked(0, 1)", 10989).is("right(0, 1, 2)", 21978).is("fee(0, 1, 1)", 20).is("dealt(1, 4)", 660)
            .is("dealt(1, 5)", 1319);
        x.after("deal(1, 0, 22, 9)").is("go(1)", 3).is("booked(0, 2)", (10000 - 10 + 660 + 10000 - 41) * 100 / 106 * 105 / 100)
            .is("fee(0, 2, 0)", 41);
    }
}
