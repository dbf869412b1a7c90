/** "Terms", marks 5 and 6: AUDITS and SUSPECTS, ALARM, BESIDE, PAYMENTS and DUE, each boundary on both sides. */
public final class SettleEdgesTest {
    public static void main(String[] args) {
        everyHeapOfSuspects();
        leastOfTheFewest();
        rivalsOfAsMany();
        allAuditsMustAgree();
        suspectsInTheirOrder();
        suspectsAsIfMadeNow();
        suspectsOfEachSubject();
        suspectsChangeNothing();
        forgotten();
        auditsAtTheEnds();
        explainedAtTheEnd();
        alarmByMoreThanParts();
        alarmFromAndToNothing();
        alarmOnOpenDays();
        besideAnotherBeyond();
        tenParties();
        asManyHeapsAsCanBe();
        firstOfLikeWays();
        paymentsByNumbers();
        paymentsOfTwoFunds();
        dueBehindFound();
        dueByTheLawOfThatDay();
        dueBehindTheLastDay();
        Run.close();
    }

    /** 100 UNITS and one piece of each of 7 PAPERS; DAY 1 is over, at 100.00. */
    private static Run sevenPapers(String about) {
        Run x = Run.ofUnits(about, 100);
        for (int paper = 0; paper < 7; paper++) x.after(Run.call("trade", 0, paper, 0, 1, 0));
        return x.is("go(1)", 2).is("booked(0, 1)", 10000).is("right(0, 1, 2)", 10000);
    }

    /** SUSPECTS: DIVIDENDS of the PAPERS 0 and on, on DAY 1; each PENNY is one hundredth of the price. */
    private static Run suspecting(String about, int... dividends) {
        Run x = sevenPapers(about);
        for (int paper = 0; paper < dividends.length; paper++) x.is(Run.call("suspect", 2, paper, 1, dividends[paper]), paper);
        return x;
    }

    private static void explained(Run x, int price, int least, int rivals) {
        Run y = x.fork().is(Run.call("audit", 0, 1, price), 1).is("explain()", least).is("rivals()", rivals);
        // Whichever is asked first, and once more.
        y.is("rivals()", rivals).is("explain()", least);
        x.fork().is(Run.call("audit", 0, 1, price), 1).is("rivals()", rivals).is("explain()", least);
    }

    // "A heap of SUSPECTS EXPLAINS, if by all KNOWN NOW and these RIGHT prices are those of all AUDITS."
    private static void everyHeapOfSuspects() {
        Run x = suspecting("5, heaps", 1, 2, 4, 8, 16, 32, 64);
        for (int heap = 0; heap < 128; heap++) explained(x, 10000 + heap, heap, 0);
        explained(x, 10128, Run.NONE, Run.NONE);
        explained(x, 9999, Run.NONE, Run.NONE);
        // Without AUDITS nothing is needed.
        x.is("explain()", 0).is("rivals()", 0);
    }

    // "LEAST is one of the fewest, of like ones the least number (bits)"
    private static void leastOfTheFewest() {
        explained(suspecting("5, LEAST", 1, 1, 2), 10002, 4, 0);
        explained(suspecting("5, LEAST", 2, 1, 1), 10002, 1, 0);
        explained(suspecting("5, LEAST", 1, 2, 3), 10003, 4, 0);
        explained(suspecting("5, LEAST", 1, 2, 3, 3), 10003, 4, 1);
        explained(suspecting("5, LEAST", 1, 4, 2, 3), 10005, 3, 1);
        explained(suspecting("5, LEAST", 4, 2, 3, 1), 10005, 6, 1);
        explained(suspecting("5, LEAST", 1, 1, 1, 1, 1, 1, 6), 10006, 64, 0);
        explained(suspecting("5, LEAST", 1, 1, 1, 1, 1, 1, 5), 10006, 65, 5);
        // Some that change nothing: none is needed.
        explained(suspecting("5, LEAST", 0, 0, 0), 10000, 0, 0);
        explained(suspecting("5, LEAST", 0, 7, 0), 10007, 2, 0);
    }

    // "RIVALS are other ones of as many."
    private static void rivalsOfAsMany() {
        Run x = suspecting("5, RIVALS", 1, 1, 1, 1, 1, 1, 1);
        int[] rivals = {0, 6, 20, 34, 34, 20, 6, 0};
        for (int many = 0; many <= 7; many++) explained(x, 10000 + many, (1 << many) - 1, rivals[many]);
        explained(x, 10008, Run.NONE, Run.NONE);
    }

    private static void allAuditsMustAgree() {
        Run x = suspecting("5, AUDITS", 1, 2).is("go(1)", 3).is("suspect(2, 2, 2, 4)", 2);
        x.fork().is("audit(0, 1, 10003)", 1).is("explain()", 3).is("audit(0, 2, 10003)", 2).is("explain()", 3);
        x.fork().is("audit(0, 1, 10003)", 1).is("audit(0, 2, 10007)", 2).is("explain()", 7).is("rivals()", 0)
            .is("audit(0, 0, 10000)", 3).is("explain()", 7);
        x.fork().is("audit(0, 2, 10007)", 1).is("audit(0, 1, 10002)", 2).refuses("explain()", "rivals()");
        x.fork().is("audit(0, 1, 10001)", 1).is("audit(0, 1, 10001)", 2).is("explain()", 1).is("audit(0, 1, 10002)", 3)
            .refuses("explain()", "rivals()");
        x.fork().is("audit(0, 1, 10000)", 1).is("explain()", 0).is("audit(0, 0, 9999)", 2).refuses("explain()", "rivals()");
        // Eight of them, the last of which tells.
        Run y = x.fork();
        for (int i = 1; i < 8; i++) y.is("audit(0, 1, 10001)", i);
        y.is("explain()", 1).is("audit(0, 2, 10005)", 8).is("explain()", 5).refuses("audit(0, 2, 10006)").is("explain()", 5);
        // Of another FUND: one that holds UNITS of this one is explained by the same SUSPECT.
        Run z = new Run("5, AUDITS")
            .after("fund(0)", "fund(0)", "holder(0)", "trade(0, 0, 0, 1, 0)", "deal(0, 0, 50, 9)", "deal(21, 0, 50, 9)",
            "deal(0, 1, 50, 9)").is("go(2)", 2);
        z.is("suspect(2, 0, 1, 100)", 0).is("audit(1, 1, 10100)", 1).is("explain()", 1).is("audit(0, 1, 10100)", 2)
            .is("explain()", 1).is("audit(1, 0, 10000)", 3).is("explain()", 1);
        z.is("forget()", 4).after("trade(1, 0, 1, 0, 50)").is("suspect(2, 0, 1, 100)", 0).is("audit(1, 1, 10100)", 1)
            .is("explain()", 0).is("audit(0, 1, 10100)", 2).refuses("explain()");
        z.is("forget()", 3).is("suspect(2, 0, 1, 100)", 0).is("audit(1, 1, 10200)", 1).is("explain()", 1)
            .is("audit(0, 1, 10100)", 2).is("explain()", 1).is("audit(0, 1, 10200)", 3).refuses("explain()");
    }

    // "(.. as if made now, in their order)"
    private static void suspectsInTheirOrder() {
        Run x = sevenPapers("5, order").is("suspect(2, 0, 1, 5)", 0).is("suspect(2, 0, 1, 9)", 1);
        explained(x, 10005, 1, 0);
        explained(x, 10009, 2, 0);
        explained(x.is("suspect(2, 1, 1, 1)", 2), 10010, 6, 0);
        Run y = sevenPapers("5, order").is("suspect(0, 0, 1, 9)", 0).is("suspect(0, 0, 0, 5)", 1).is("suspect(0, 1, 0, 1)", 2);
        // The PRICE for the later DAY counts, whichever is told first.
        explained(y, 10009, 1, 0);
        explained(y, 10005, 2, 0);
        explained(y, 10010, 5, 0);
        explained(y, 10006, 6, 0);
    }

    private static void suspectsAsIfMadeNow() {
        // Made behind all TELLINGS, those too that are made after it was told.
        Run x = sevenPapers("5, as if made now").after("tell(2, 0, 1, 3)").is("suspect(2, 0, 1, 5)", 0)
            .is("audit(0, 1, 10005)", 1).is("explain()", 1).after("tell(2, 0, 1, 4)").is("explain()", 1);
        x.after("tell(2, 0, 1, 5)").is("explain()", 0).after("tell(2, 0, 1, 6)").is("explain()", 1).is("go(3)", 5)
            .is("explain()", 1).after("tell(2, 0, 1, 7)").is("explain()", 1);
        x.after("trade(0, 7, 1, 0, -7)").refuses("explain()").after("trade(0, 7, 1, 0, 7)").is("explain()", 1)
            .after("trade(0, 7, 1, 0, -2)").is("explain()", 0);
        // One for a DAY that isn't over yet explains nothing till then.
        Run y = sevenPapers("5, as if made now").is("suspect(2, 0, 2, 5)", 0).is("suspect(2, 0, 259, 5)", 1)
            .is("audit(0, 1, 10005)", 1).refuses("explain()").is("forget()", 3);
        y.is("suspect(2, 0, 2, 5)", 0).is("go(1)", 3).is("audit(0, 2, 10005)", 1).is("explain()", 1).is("audit(0, 1, 10000)", 2)
            .is("explain()", 1);
    }

    private static void suspectsOfEachSubject() {
        Run x = new Run("5, SUBJECTS").yes("paper(0, 2)")
            .after("fund(0)", "holder(0)", "deal(0, 0, 100, 9)", "trade(0, 0, 0, 10, 0)", "tell(0, 0, 0, 10)").is("go(2)", 2)
            .is("booked(0, 1)", 10100);
        x.is("suspect(0, 0, 1, 20)", 0).is("suspect(1, 2, 1, 1500)", 1).is("suspect(2, 0, 1, 7)", 2)
            .is("suspect(3, 0, 1, 500)", 3).is("suspect(1, 1, 1, 5000)", 4);
        int[][] all = {{10200, 1}, {10150, 2}, {10170, 4}, {10050, 8}, {10300, 3}, {10100, 0}};
        for (int[] one : all) explained(x, one[0], one[1], 0);
        // 10 pieces by half, at 20 and 1.500, and 7 for each, times 1.5: 150 and 52.
        explained(x, 10202, 15, 0);
    }

    private static void suspectsChangeNothing() {
        Run x = suspecting("5, SUSPECTS", 1, 2, 4).is("audit(0, 1, 10005)", 1).is("explain()", 5).is("right(0, 1, 2)", 10000)
            .is("errors(0)", 0).is("cash(0, 1)", 10000).is("known(2, 0, 1, 2)", 0);
        x.is("explain()", 5).is("count(3)", 0).is("dealt(0, 5)", 10000).is("house(0, 2)", 0).is("go(1)", 3)
            .is("booked(0, 2)", 10000).is("explain()", 5).is("balance(0, 20)", 0);
        // Nor those for a DAY that ends after they were told.
        Run y = sevenPapers("5, SUSPECTS").is("suspect(2, 0, 2, 5)", 0).is("suspect(0, 1, 2, 7)", 1).is("go(1)", 3)
            .is("booked(0, 2)", 10000).is("right(0, 2, 3)", 10000).is("cash(0, 0)", 10000);
        y.is("audit(0, 2, 10012)", 1).is("explain()", 3).is("go(1)", 4).is("booked(0, 3)", 10000).is("explain()", 3);
    }

    // "AUDITS and SUSPECTS are forgotten: how many both were."
    private static void forgotten() {
        Run x = suspecting("33, forget", 1, 1, 1, 1, 1, 1, 1);
        for (int i = 1; i <= 8; i++) x.is("audit(0, 1, 10003)", i);
        x.is("explain()", 7).is("forget()", 15).is("count(8)", 0).is("count(9)", 0).is("explain()", 0).is("rivals()", 0)
            .is("forget()", 0).is("audit(0, 1, 10003)", 1).refuses("explain()");
        x.is("forget()", 1).is("suspect(2, 5, 1, 3)", 0).is("forget()", 1).is("suspect(2, 5, 1, 3)", 0)
            .is("audit(0, 1, 10003)", 1).is("explain()", 1).is("forget()", 2);
    }

    private static void auditsAtTheEnds() {
        Run x = Run.ofUnits("5, AUDITS", 1).after("trade(0, 0, 0, 1, 0)").is("go(1)", 2).is("suspect(0, 0, 1, 10000)", 0)
            .is("suspect(3, 0, 1, 10000)", 1).is("suspect(2, 0, 1, 1000)", 2);
        // 10 pieces at 10000, and 10000 of DIVIDENDS: beyond the most.
        explained(x, 10000000, 3, 0);
        explained(x, 10000, 0, 0);
        x.after("trade(0, 0, 1, 0, -101)");
        explained(x, 0, 0, 0);
        explained(x, 1, Run.NONE, Run.NONE);
    }

    private static void explainedAtTheEnd() {
        Run x = sevenPapers("5, at the end").goTo(260).is("suspect(2, 0, 259, 5)", 0).is("suspect(2, 0, 1, 3)", 1)
            .is("suspect(2, 1, 1, 3)", 2);
        x.is("audit(0, 259, 10005)", 1).is("explain()", 1).is("audit(0, 256, 10003)", 2).refuses("explain()").is("forget()", 5);
        x.is("suspect(2, 0, 1, 3)", 0).is("suspect(2, 1, 1, 3)", 1).is("audit(0, 256, 10003)", 1).is("explain()", 1)
            .is("rivals()", 1).is("audit(0, 259, 10006)", 2).refuses("explain()");
    }

    // "differs from that of the OPEN DAY ahead by more than n parts of 10000 of it"
    private static void alarmByMoreThanParts() {
        // Price of DAY 1, and the most parts by which it differs from 10000.
        int[][] all = {{10100, 99}, {9900, 99}, {10101, 100}, {9899, 100}, {10001, 0}, {9999, 0}, {20000, 9999}, {20001, 10000},
            {0, 9999}, {10000, -1}, {15000, 4999}};
        for (int[] one : all) {
            Run x = Run.ofUnits("36, alarm", 100).is("alarm(0, 0)", Run.NONE).after(Run.call("trade", 0, 0, 1, 0, one[0] - 10000))
                .is("alarm(0, 0)", Run.NONE).is("go(1)", 2).is("booked(0, 1)", one[0]);
            for (int n : new int[] {0, 1, 100, one[1], one[1] + 1, 10000}) {
                if (n >= 0 && n <= 10000) x.is(Run.call("alarm", 0, n), n <= one[1] ? 1 : Run.NONE);
            }
        }
        // By more than 10000 parts it differs, but so much can't be asked for.
        Run.ofUnits("36, alarm", 100).after("trade(0, 0, 1, 0, 90000)").is("go(1)", 2).is("alarm(0, 9999)", 1)
            .is("alarm(0, 10000)", 1).refuses("alarm(0, 10001)", "alarm(0, 2147483647)", "alarm(0, -1)");
        // Of the price ahead, not of the later one: 10000 to 12000 are 2000, and 12000 back are 1666 of it.
        Run x = Run.ofUnits("36, alarm", 100).is("go(1)", 2).after("trade(0, 0, 2, 0, 2000)").is("go(1)", 3)
            .is("alarm(0, 1999)", 2).is("alarm(0, 2000)", Run.NONE);
        x.after("trade(0, 0, 3, 0, -2000)").is("go(1)", 4).is("alarm(0, 1999)", 2).is("alarm(0, 2000)", Run.NONE)
            .is("alarm(0, 1666)", 2);
        Run y = Run.ofUnits("36, alarm", 100).after("trade(0, 0, 0, 0, 2000)").is("go(1)", 2).is("booked(0, 1)", 12000)
            .after("trade(0, 0, 2, 0, -2000)").is("go(1)", 3).is("alarm(0, 1999)", 1);
        y.is("alarm(0, 2000)", Run.NONE).is("alarm(0, 1667)", 1);
        // The first one of all.
        Run z = Run.ofUnits("36, alarm", 100).is("go(1)", 2).after("trade(0, 0, 2, 0, 100)").is("go(1)", 3)
            .after("trade(0, 0, 3, 0, 1000)").is("go(1)", 4).is("alarm(0, 50)", 2).is("alarm(0, 100)", 3);
        // By BOOKED prices: what should have been doesn't matter.
        z.after("trade(0, 0, 1, 0, 5000)", "trade(0, 0, 2, 0, -5100)").is("alarm(0, 50)", 2).is("alarm(0, 100)", 3);
    }

    private static void alarmFromAndToNothing() {
        Run x = Run.ofUnits("36, alarm", 100).after("trade(0, 0, 1, 0, -10000)").is("go(1)", 2).is("alarm(0, 9999)", 1)
            .is("alarm(0, 10000)", Run.NONE).is("go(1)", 3).is("alarm(0, 10000)", Run.NONE);
        // 0 and 0 don't differ; 0 and 1 do by more than any part of 0.
        x.after("trade(0, 0, 3, 0, 1)").is("go(1)", 4).is("booked(0, 3)", 1).is("alarm(0, 10000)", 3).is("alarm(0, 9999)", 1);
    }

    // "the first OPEN DAY behind the first OPEN one"
    private static void alarmOnOpenDays() {
        Run x = Run.ofUnits("36, alarm", 100).yes("holiday(8)").goTo(5).is("alarm(0, 0)", Run.NONE).after("trade(0, 0, 5, 0, 50)")
            .is("go(2)", 7).is("alarm(0, 0)", Run.NONE);
        x.is("go(1)", 8).is("alarm(0, 0)", 7).is("alarm(0, 49)", 7).is("alarm(0, 50)", Run.NONE).after("trade(0, 0, 8, 0, 10000)")
            .is("go(1)", 9).is("alarm(0, 50)", Run.NONE).is("go(1)", 10).is("alarm(0, 50)", 9);
        // DAY 0 is the first OPEN one: there is none ahead of it.
        new Run("36, alarm").after("fund(0)", "holder(0)").law("swing 1000 over 0").after("deal(0, 0, 1, 9)").is("go(1)", 1)
            .is("booked(0, 0)", 11000).is("alarm(0, 0)", Run.NONE);
        Run.ofUnits("36, alarm", 100).goTo(259).after("trade(0, 0, 259, 0, 1)").is("alarm(0, 0)", Run.NONE).is("go(1)", 260)
            .is("alarm(0, 0)", 259);
    }

    // "the sum of all CLAIMS above 0 by a FUND, AS KNOWN NOW, with another beyond"
    private static void besideAnotherBeyond() {
        // 110.00 on DAY 1 and not 100.00: HOLDERS 0 and 1 bought 1 and 10, HOLDER 2 sold what they haven't, and HOLDER 0 sells 3.
        Run x = Run.ofUnits("37, beside", 100)
            .after("trade(0, 0, 1, 0, 1000)", "deal(0, 0, 1, 9)", "deal(1, 0, 10, 9)", "deal(2, 0, -5, 9)", "deal(0, 0, -3, 9)")
            .is("go(1)", 2).is("beside(0, 0)", 0);
        x.after("trade(0, 0, 1, 0, -1000)").is("beside(0, 0)", 110).is("beside(0, 999)", 110).is("beside(0, 1000)", 0)
            .is("beside(0, 5000)", 0);
        // THE LAW's own beyond doesn't matter to it, all other rules do; those below 0 don't.
        x.law("error beyond 5000").is("errors(0)", 0).is("beside(0, 999)", 110).is("beside(0, 1000)", 0)
            .law("gains back beyond 0").is("beside(0, 0)", 100).claims(0, 0, 2, 10, 30, -20, 0);
        x.law("least 100000 to poor").is("beside(0, 0)", 110).law("gone 300 days to house").yes("gone(1)")
            .is("beside(0, 0)", 110);
    }

    /** HOLDERS who each have 50 UNITS deal on DAY 1 at 120.00, which should have been 100.00; gains go back. */
    private static Run owing(String about, int... deals) {
        Run x = new Run(about).after("fund(0)");
        for (int holder = 0; holder < deals.length; holder++) x.after("holder(0)", Run.call("deal", holder, 0, 50, 9));
        x.is("go(1)", 1).after(Run.call("trade", 0, 0, 1, 0, 1000 * deals.length));
        for (int holder = 0; holder < deals.length; holder++) {
            if (deals[holder] != 0) x.after(Run.call("deal", holder, 0, deals[holder], 9));
        }
        x.is("go(1)", 2).is("booked(0, 1)", 12000).after(Run.call("trade", 0, 0, 1, 0, -1000 * deals.length))
            .is("right(0, 1, 2)", 10000).law("gains back beyond 0").is("house(0, 2)", 0);
        int sum = 0;
        for (int holder = 0; holder < deals.length; holder++) {
            x.balances(0, holder, 20 * deals[holder]);
            sum += 20 * deals[holder];
        }
        return x.balances(0, 20, -sum, 40, 0, 41, 0);
    }

    // "(at most 10 PARTIES with a BALANCE that isn't 0)"
    private static void tenParties() {
        // The FUND is the tenth, or the eleventh.
        owing("39, ten", 1, 1, 1, 1, 1, 1, 1, 1, 1).is("payments(0)", 9).is("payment(0, 8, 2)", 180)
            .is("payment(0, 9, 2)", Run.ABSENT);
        owing("39, eleven", 1, 1, 1, 1, 1, 1, 1, 1, 1, 1)
            .refuses("payments(0)", "payment(0, 0, 0)", "payment(0, 0, 1)", "payment(0, 0, 2)").balances(0, 20, -200);
        // HOLDERS whose BALANCE is 0 don't count: ten without the FUND, and eleven.
        owing("39, ten of sixteen", 1, 0, -1, 0, 2, 0, -2, 3, -3, 0, 0, 4, -4, 5, -5, 0).is("payments(0)", 5)
            .is("payment(0, 5, 0)", Run.ABSENT);
        owing("39, eleven of sixteen", 1, 0, -1, 0, 2, 0, -2, 3, -3, 1, 0, 4, -4, 5, -6, 0)
            .refuses("payments(0)", "payment(0, 0, 0)");
        owing("39, sixteen", 1, -1, 1, -1, 1, -1, 1, -1, 1, -1, 1, -1, 1, -1, 1, -1).refuses("payments(0)", "payment(0, 0, 0)");
        // None at all.
        owing("39, none", 0, 0).pays(0);
        owing("39, two", 0, 7).pays(0, 20, 1, 140);
        owing("39, two", -7, 0).pays(0, 0, 20, 140);
    }

    // "by as many heaps of PARTIES as can be, each of which sums to 0"
    private static void asManyHeapsAsCanBe() {
        // {0, 1, 2} is less than {0, 3}, but then there would be two heaps, and not three.
        owing("40, three heaps", -5, 2, 3, 5, -2, -3).pays(0, 0, 3, 100, 4, 1, 40, 5, 2, 60);
        owing("40, two heaps", -5, 2, 3, 6, -2, -4).pays(0, 0, 1, 100, 1, 2, 60, 4, 3, 120, 5, 4, 80);
        owing("40, one heap", -5, 1, 1, 1, 2).pays(0, 0, 1, 100, 1, 2, 80, 2, 3, 60, 3, 4, 40);
        owing("40, five heaps", 1, 2, 3, 4, 5, -5, -4, -3, -2, -1).pays(0, 9, 0, 20, 8, 1, 40, 7, 2, 60, 6, 3, 80, 5, 4, 100);
    }

    // "the heap of the least PARTY least as a number, by bits of those PARTIES in the order of their numbers, then that of the least left"
    private static void firstOfLikeWays() {
        owing("40, like ways", -2, 2, 2, -2).pays(0, 0, 1, 40, 3, 2, 40);
        owing("40, like ways", -2, -2, 2, 2).pays(0, 0, 2, 40, 1, 3, 40);
        owing("40, like ways", 0, -2, 0, 2, 0, 2, -2).pays(0, 1, 3, 40, 6, 5, 40);
        // {0, 1, 4} is 19, {0, 2, 3} is 13: two heaps either way.
        owing("40, like ways", -5, 1, 2, 3, 4, -5).pays(0, 0, 2, 100, 2, 3, 60, 4, 1, 20, 5, 4, 100);
        // The second heap is the least of what is left, too.
        owing("40, like ways", -1, 1, -3, -3, 3, 3).pays(0, 0, 1, 20, 2, 4, 60, 3, 5, 60);
    }

    // "in a heap, by numbers, each pays the next one the sum of all that those up to it owe (or gets it, if it is below 0)"
    private static void paymentsByNumbers() {
        owing("40, in a heap", -4, 1, 3).pays(0, 0, 1, 80, 1, 2, 60);
        owing("40, in a heap", 4, -1, -3).pays(0, 1, 0, 80, 2, 1, 60);
        owing("40, in a heap", 3, -5, 2).pays(0, 1, 0, 60, 1, 2, 40);
        owing("40, in a heap", -3, 5, -2).pays(0, 0, 1, 60, 2, 1, 40);
        // The FUND stands behind HOLDERS, THE HOUSE and the poor behind it.
        owing("40, in a heap", -4, 1).pays(0, 0, 1, 80, 1, 20, 60);
        Run x = owing("40, in a heap", 5, 1).law("least 21 to poor").balances(0, 0, 100, 1, 0, 20, -120, 40, 0, 41, 20)
            .pays(0, 20, 0, 100, 20, 41, 20);
        x.law("least 21 to fund").balances(0, 0, 100, 1, 0, 20, -120, 40, 20, 41, 0).pays(0, 20, 0, 100, 20, 40, 20);
    }

    private static void paymentsOfTwoFunds() {
        Run x = new Run("40, two FUNDS").after("fund(0)", "fund(0)");
        for (int holder = 0; holder < 4; holder++) {
            x.after("holder(0)", Run.call("deal", holder, 0, 50, 9), Run.call("deal", holder, 1, 50, 9));
        }
        x.is("go(1)", 1).after("trade(0, 0, 1, 0, 4000)", "trade(1, 0, 1, 0, 4000)");
        int[][] deals = {{-5, 5, 3, -3}, {-5, -3, 5, 3}};
        for (int holder = 0; holder < 4; holder++) {
            x.after(Run.call("deal", holder, 0, deals[0][holder], 9), Run.call("deal", holder, 1, deals[1][holder], 9));
        }
        x.is("go(1)", 2).after("trade(0, 0, 1, 0, -4000)", "trade(1, 0, 1, 0, -4000)").law("gains back beyond 0");
        for (int round = 0; round < 3; round++) x.pays(0, 0, 1, 100, 3, 2, 60).pays(1, 0, 2, 100, 1, 3, 60);
        x.law("gains back beyond 60").pays(0, 0, 1, 100, 40, 2, 60).pays(1, 0, 2, 100, 40, 3, 60);
    }

    // "DUE is a DAY: report OPEN DAYS .. behind the FOUND one"
    private static void dueBehindFound() {
        int[][] all = {{0, 0, 0}, {0, 1, 1}, {0, 4, 4}, {0, 5, 7}, {0, 60, 84}, {4, 0, 4}, {4, 1, 7}, {5, 0, 5}, {5, 1, 7},
            {6, 1, 7}, {6, 5, 11}, {6, 6, 14}, {7, 1, 8}, {3, 2, 7}};
        for (int[] one : all) {
            Run x = new Run("30, due").after("fund(0)").law("report " + one[1] + " days").goTo(one[0]).refuses("due(0)")
                .yes("found(0)").is("due(0)", one[2]);
            x.goTo(100).is("due(0)", one[2]);
        }
        // HOLIDAYS don't count: neither those told ahead, nor later.
        Run x = new Run("30, due").after("fund(0)").law("report 2 days").yes("holiday(1)").yes("found(0)").is("due(0)", 3)
            .yes("holiday(3)").is("due(0)", 4).yes("holiday(5)").is("due(0)", 4);
        x.yes("holiday(4)").is("due(0)", 7).yes("holiday(2)").is("due(0)", 8);
    }

    // "(of THE LAW of that DAY)"
    private static void dueByTheLawOfThatDay() {
        Run x = new Run("30, due").after("fund(0)", "fund(0)").law("report 3 days\nfund 1: report 1 days").is("go(1)", 1)
            .yes("found(0)").is("due(0)", 4).is("go(1)", 2).law("report 9 days").is("due(0)", 4);
        x.yes("found(1)").is("due(1)", 15).is("due(0)", 4);
        // Taken on the FOUND DAY, even after it was FOUND.
        new Run("30, due").after("fund(0)").yes("found(0)").is("due(0)", 0).law("report 2 days").is("due(0)", 2)
            .law("report 0 days").is("due(0)", 0).is("go(1)", 1).law("report 5 days").is("due(0)", 0);
    }

    // "(none if it is behind the last DAY)"
    private static void dueBehindTheLastDay() {
        int[][] all = {{175, 60, 259}, {176, 60, Run.NONE}, {259, 0, 259}, {259, 1, Run.NONE}, {258, 1, 259}, {258, 2, Run.NONE},
            {258, 0, 258}, {256, 1, 259}, {256, 2, Run.NONE}, {255, 2, 259}, {255, 3, Run.NONE}};
        for (int[] one : all) {
            new Run("30, due").after("fund(0)").law("report " + one[1] + " days").goTo(one[0]).yes("found(0)")
                .is("due(0)", one[2]).goTo(260).is("due(0)", one[2]);
        }
        new Run("30, due").after("fund(0)").law("report 1 days").yes("holiday(259)").goTo(256).yes("found(0)")
            .is("due(0)", Run.NONE);
    }
}
