/** "Terms", mark 2: who may hold and deal, on which DAY, and TEXTS and LAWS, each boundary on both sides. */
public final class TextEdgesTest {
    public static void main(String[] args) {
        feedersHoldLesserFunds();
        dealsAreForNowAheadOfCut();
        hoursLessZones();
        cutOfTheFundNow();
        firstOpenDayBehindNow();
        textsOfSixHundredBytes();
        bytesOfANumber();
        linesAndBlanks();
        tokensAsLongAsCanBe();
        boundsOfEachRule();
        wordsOfEachRule();
        faultIsTheFirstOfAll();
        endOfALineThatIsOverTooEarly();
        bytesThatBeginNoToken();
        laterLinesCount();
        linesForAFundCountAhead();
        lawsHoldFromNowOn();
        whatALawDoesNotTell();
        Run.close();
    }

    // "a FEEDER: it holds UNITS of FUNDS with lesser numbers only; for a FUND that it can't hold it is no such WHO, but a PARTY"
    private static void feedersHoldLesserFunds() {
        Run x = new Run("2, WHO").after("fund(0)", "fund(0)", "fund(0)", "fund(0)", "holder(0)");
        int number = 0;
        for (int feeder = 0; feeder < 4; feeder++) {
            for (int fund = 0; fund < 4; fund++) {
                boolean can = fund < feeder;
                String[] calls = {Run.call("deal", 20 + feeder, fund, 1, 0), Run.call("units", 20 + feeder, fund),
                    Run.call("claim", 20 + feeder, fund, 0, 0)};
                if (can) x.is(calls[0], number++).is(calls[1], 0).is(calls[2], 0);
                else x.refuses(calls);
                x.is(Run.call("balance", fund, 20 + feeder), 0);
            }
        }
        x.is("count(5)", 6).refuses("deal(24, 0, 1, 0)", "deal(24, 3, 1, 0)", "units(24, 0)", "balance(0, 24)");
    }

    private static void dealtOn(Run x, int who, int hour, int day) {
        Run y = x.fork();
        int number = y.many("count(5)");
        if (day == Run.NONE) y.refuses(Run.call("deal", who, 0, 1, hour));
        else y.is(Run.call("deal", who, 0, 1, hour), number).is(Run.call("dealt", number, 2), day)
            .is(Run.call("dealt", number, 3), 0);
    }

    // "It is for NOW, if NOW is OPEN and HOUR less ZONE is below CUT of the FUND NOW, else for the first OPEN DAY behind NOW"
    private static void dealsAreForNowAheadOfCut() {
        for (int cut = 0; cut <= 24; cut++) {
            Run x = new Run("2, CUT " + cut).after("fund(0)", "fund(0)", "holder(0)").law("cut " + cut);
            for (int hour = 0; hour < 24; hour++) {
                dealtOn(x, 0, hour, hour < cut ? 0 : 1);
                dealtOn(x, 21, hour, hour < cut ? 0 : 1);
            }
        }
    }

    // "an HOUR (0 .. 23 of the WHO's own; a FUND's ZONE is 0)"
    private static void hoursLessZones() {
        Run x = new Run("2, ZONE").after("fund(0)", "fund(0)", "holder(12)", "holder(-11)", "holder(1)", "holder(-1)");
        // CUT 24.
        dealtOn(x, 0, 23, 0);
        dealtOn(x, 1, 12, 0);
        dealtOn(x, 1, 13, 1);
        dealtOn(x, 2, 23, 0);
        dealtOn(x, 3, 22, 0);
        dealtOn(x, 3, 23, 1);
        dealtOn(x, 21, 23, 0);
        x.law("cut 0");
        dealtOn(x, 0, 0, 0);
        dealtOn(x, 0, 11, 0);
        dealtOn(x, 0, 12, 1);
        dealtOn(x, 1, 0, 1);
        dealtOn(x, 2, 0, 0);
        dealtOn(x, 2, 1, 1);
        dealtOn(x, 3, 0, 1);
        dealtOn(x, 21, 0, 1);
    }

    private static void cutOfTheFundNow() {
        Run x = new Run("2, CUT").after("fund(0)", "fund(0)", "holder(0)").law("fund 0: cut 10\ncut 12\nfund 1: cut 14");
        x.after("deal(0, 0, 1, 9)", "deal(0, 0, 1, 10)", "deal(0, 1, 1, 13)", "deal(0, 1, 1, 14)");
        x.is("dealt(0, 2)", 0).is("dealt(1, 2)", 1).is("dealt(2, 2)", 0).is("dealt(3, 2)", 1);
        // By a LAW that is TAKEN NOW, from the next call on; the DAYS of DEALS ahead stay.
        x.law("cut 3").after("deal(0, 0, 1, 2)", "deal(0, 0, 1, 3)").is("dealt(4, 2)", 0).is("dealt(5, 2)", 1)
            .is("dealt(0, 2)", 0);
        x.is("go(1)", 1).after("deal(0, 0, 1, 2)", "deal(0, 0, 1, 3)").is("dealt(6, 2)", 1).is("dealt(7, 2)", 2);
        x.law("cut 24").after("deal(0, 0, 1, 23)").is("dealt(8, 2)", 1).is("dealt(7, 2)", 2);
    }

    // "else for the first OPEN DAY behind NOW; none, if there is none such"
    private static void firstOpenDayBehindNow() {
        Run x = new Run("2, DAY of a DEAL").after("fund(0)", "holder(0)").law("cut 10");
        dealtOn(x, 0, 10, 1);
        dealtOn(x.fork().yes("holiday(1)"), 0, 10, 2);
        dealtOn(x.fork().yes("holiday(1)").yes("holiday(2)").yes("holiday(3)").yes("holiday(4)"), 0, 10, 7);
        x.is("go(4)", 4);
        dealtOn(x, 0, 9, 4);
        dealtOn(x, 0, 10, 7);
        x.is("go(1)", 5);
        dealtOn(x, 0, 0, 7);
        dealtOn(x.fork().yes("holiday(7)"), 0, 0, 8);
        x.is("go(1)", 6);
        dealtOn(x, 0, 0, 7);
        dealtOn(x, 0, 23, 7);
        // NOW is a HOLIDAY.
        x.yes("holiday(8)").is("go(2)", 8);
        dealtOn(x, 0, 0, 9);
        x.goTo(256);
        dealtOn(x, 0, 9, 256);
        dealtOn(x, 0, 10, 259);
        dealtOn(x.fork().yes("holiday(259)"), 0, 9, 256);
        dealtOn(x.fork().yes("holiday(259)"), 0, 10, Run.NONE);
        x.is("go(1)", 257);
        dealtOn(x, 0, 0, 259);
        dealtOn(x.fork().yes("holiday(259)"), 0, 0, Run.NONE);
        x.is("go(2)", 259);
        dealtOn(x, 0, 9, 259);
        dealtOn(x, 0, 10, Run.NONE);
        x.is("go(1)", 260);
        dealtOn(x, 0, 0, Run.NONE);
    }

    // "A TEXT has at most 600 bytes"
    private static void textsOfSixHundredBytes() {
        Run x = new Run("2, TEXT").after("fund(0)");
        x.text("fee" + " ".repeat(597)).is("count(7)", 600).is("fault()", 600).refuses("feed(0, 0, 0, 0, 0)", "take()");
        x.text("fee 8" + " ".repeat(595)).is("fault()", -1).is("take()", 0).rules(0, 0, 8);
        x.text(" ".repeat(595) + "fee 9").is("fault()", -1).is("take()", 1).rules(0, 0, 9);
        x.text(" ".repeat(596) + "cut?").is("fault()", 599).text(" ".repeat(596) + "cut\n").is("fault()", 599);
        x.text("\n".repeat(600)).is("fault()", -1).is("take()", 2).rules(0, 0, 0);
        x.text("").is("count(7)", 0).is("fault()", -1).is("take()", 3);
    }

    // "Bytes come behind those of the TEXT, of each number the highest first (20 of them)"
    private static void bytesOfANumber() {
        Run x = new Run("12, bytes").after("fund(0)", "fund(0)");
        // "fee " "12\nc" "ut 1" "1\nta" "x 13"
        x.is("feed(1717921056, 825363043, 1970544689, 822768737, 2015375667)", 20).is("fault()", -1);
        x.fork().is("take()", 0).rules(0, 0, 12, 12).rules(0, 3, 11, 11).rules(0, 10, 13, 13);
        // Behind them: "\nfun" "d 1:" "repo" "rt 9" " day"; and then "s", two ends of LINES, and bytes 0.
        x.is("feed(174486894, 1679831354, 1919250543, 1920213049, 543449465)", 40).is("fault()", 37)
            .is("feed(1930037760, 0, 0, 0, 0)", 60);
        x.is("fault()", 43).yes("end(43)").is("fault()", -1).is("take()", 0).rules(0, 11, 0, 9).rules(0, 10, 13, 13);
        // Bytes of 128 and more, and 0, begin no TOKEN; they aren't brought to others.
        new Run("12, bytes").is("feed(-1, 538976288, 538976288, 538976288, 538976288)", 20).is("fault()", 0);
        new Run("12, bytes").is("feed(543582720, 538976288, 538976288, 538976288, 538976288)", 20).is("fault()", 1);
        new Run("12, bytes").is("feed(543582817, 538976288, 538976288, 538976288, 538976288)", 20).is("fault()", 1);
        new Run("12, bytes").is("feed(536870912, 0, 0, 0, 0)", 20).is("fault()", 1);
        new Run("12, bytes").is("feed(538976384, 0, 0, 0, 0)", 20).is("fault()", 3);
        new Run("12, bytes").is("feed(538976288, 538976288, 538976288, 538976288, 538976416)", 20).is("fault()", 19);
    }

    private static void fault(String text, int at) {
        new Run("14, \"" + text.replace("\n", "\\n") + "\"").text(text).is("fault()", at);
    }

    // "LINES end at bytes 10"; "blanks (32) are between. A LINE without TOKENS tells nothing"
    private static void linesAndBlanks() {
        for (String text : new String[] {"", " ", "\n", "\n\n\n", "   \n  \n ", "fee 5", "fee 5\n", "\nfee 5",
            "\n\n  fee   5  \n\n", "fee 5\n\ncut 3", "fee 5\n   \ncut 3\n"}) {
            fault(text, -1);
        }
        fault("fee\n5", 3);
        fault("fee 5 cut 3", 6);
        fault("cut 3\nfee 5 cut 3", 12);
        fault("swing 5\nover 6", 7);
        fault("fund 0:\nfee 5", 7);
        Run x = new Run("2, LINES").after("fund(0)").text("\n \nfee 5\n\n   cut 3   \n").is("take()", 0).rules(0, 0, 5)
            .rules(0, 3, 3);
        x.text("\n \n").is("take()", 1).rules(0, 0, 0).rules(0, 3, 24);
    }

    // "words of small letters and numbers of digits, as long as can be, and the sign :"
    private static void tokensAsLongAsCanBe() {
        for (String text : new String[] {"fee5", "swing5over6", "fund0:fee5", "fund 0:fee 5", "fund 0 :fee 5", "fund 0 : fee 5",
            "report5days", "gone5days to poor",
            "fee 00005", "fee 0000000000000000000000000000000000005", "fee 5000", "fee 05000"}) {
            fault(text, -1);
        }
        fault("feefee 5", 0);
        fault("feecut", 0);
        fault("fe e 5", 0);
        fault("fee 5 0", 6);
        fault("fee 5x", 5);
        fault("gains stayback", 6);
        fault("gone 5 daysto poor", 7);
        fault("fund 0::fee 5", 7);
        fault("fund 0: :fee 5", 8);
        fault("fee :5", 4);
        fault("fee 50000", 4);
        fault("fee 4294967296", 4);
        fault("fee 4294967301", 4);
        fault("fee 18446744073709551621", 4);
        fault("fee 1" + "0".repeat(400), 4);
        fault("fee " + "0".repeat(400) + "1", -1);
        new Run("2, TOKENS").after("fund(0)", "fund(0)").text("fund01:fee007\nfee 0" + "0".repeat(300) + "9").is("take()", 0)
            .rules(0, 0, 9, 7);
    }

    // "each a number N, M within its bounds"
    private static void boundsOfEachRule() {
        // A LINE, the place of its number, the most it can be, and which rule it is.
        Object[][] all = {{"fee #", 4, 5000, 0}, {"swing # over 1", 6, 1000, 1}, {"swing 1 over #", 13, 10000, 2},
            {"cut #", 4, 24, 3}, {"error beyond #", 13, 5000, 4},
            {"least # to fund", 6, 100000, 5}, {"least # to house", 6, 100000, 5}, {"least # to poor", 6, 100000, 5},
                {"gains back beyond #", 18, 100000, 7},
            {"gone # days to fund", 5, 300, 8}, {"gone # days to house", 5, 300, 8}, {"gone # days to poor", 5, 300, 8},
                {"tax #", 4, 90, 10}, {"report # days", 7, 60, 11}};
        for (Object[] one : all) {
            String line = (String) one[0];
            int place = (Integer) one[1];
            int most = (Integer) one[2];
            int what = (Integer) one[3];
            for (int value : new int[] {0, 1, most - 1, most}) {
                new Run("16, " + line).after("fund(0)", "fund(0)").text(line.replace("#", "" + value)).is("fault()", -1)
                    .is("take()", 0).rules(0, what, value, value);
                String alone = "fund 1: " + line.replace("#", "" + value);
                int without = new int[] {0, 0, 10000, 24, 0, 0, 0, -1, 300, 0, 0, 0}[what];
                new Run("16, " + alone).after("fund(0)", "fund(0)").text(alone).is("fault()", -1).is("take()", 0)
                    .rules(0, what, without, value);
            }
            for (String value : new String[] {"" + (most + 1), "" + (most + 1L + (1L << 32)), most + "0",
                "999999999999999999999", "-1", "x", ":"}) {
                fault(line.replace("#", value), place);
                fault("cut 1\nfund 3 : " + line.replace("#", value), 15 + place);
            }
            // Without it, the next TOKEN or the LINE's end stands where it should.
            String lacking = line.replace("#", "").stripTrailing();
            fault(lacking, Math.min(place + 1, lacking.length()));
        }
        // "fund N : (0 .. 3)"
        for (int fund = 0; fund <= 3; fund++) fault("fund " + fund + ": cut 1", -1);
        fault("fund 4: cut 1", 5);
        fault("fund 10: cut 1", 5);
        fault("fund 4294967296: cut 1", 5);
    }

    // "P is fund, house or poor"
    private static void wordsOfEachRule() {
        String[] parties = {"fund", "house", "poor"};
        for (int p = 0; p < 3; p++) {
            Run x = new Run("16, P").after("fund(0)").text("least 7 to " + parties[p] + "\ngone 8 days to " + parties[2 - p])
                .is("take()", 0);
            x.rules(0, 5, 7).rules(0, 6, p).rules(0, 8, 8).rules(0, 9, 2 - p);
        }
        for (String word : new String[] {"funds", "fun", "hous", "houses", "poo", "poors", "to", "x", "stay"}) {
            fault("least 7 to " + word, 11);
            fault("gone 7 days to " + word, 15);
            fault(word + " 7", 0);
        }
        for (String word : new String[] {"fees", "fe", "swings", "cuts", "cu", "errors", "erro", "leas", "gain", "gon", "taxes",
            "ta", "reports", "days", "over", "beyond", "to", "back", "stay",
            "house", "poor"}) {
            fault(word + " 5", 0);
            fault("fund 0: " + word + " 5", 8);
        }
        fault("gains stay", -1);
        fault("gains sta", 6);
        fault("gains stays", 6);
        fault("gains stay stay", 11);
        fault("gains back beyon 5", 11);
        fault("gains back beyond stay", 18);
        fault("error beyon 5", 6);
        fault("error 5", 6);
        fault("swing 5 ove 6", 8);
        fault("report 5 day", 9);
        fault("gone 5 day to fund", 7);
        fault("gone 5 days in fund", 12);
        fault("least 5 for fund", 8);
        fault("fund fee 5", 5);
        fault("fund 1 fee 5", 7);
        fault("fund 1 1 : fee 5", 7);
        fault("fund 1: fund", 8);
    }

    // "the first one of all"
    private static void faultIsTheFirstOfAll() {
        fault("fee 5001 ?", 4);
        fault("fee ? 5001", 4);
        fault("? fee 5001", 0);
        fault("fee 5 ?\nfee 5001", 6);
        fault("fee 5\nfee 5001\n?", 10);
        fault("fee\nfee 5001", 3);
        fault("fee 1\ncut 2\nbad\nworse", 12);
        fault("swing 1001 over 10001", 6);
        fault("swing 1000 over 10001", 16);
        fault("fund 9: fee 9999", 5);
        fault("fund 3: fee 9999", 12);
    }

    // "of the LINE's end if it is over too early (the byte 10, or the TEXT's length)"
    private static void endOfALineThatIsOverTooEarly() {
        String[] wholes = {"fee 5", "swing 5 over 6", "cut 7", "error beyond 8", "least 9 to fund", "gains stay",
            "gains back beyond 10", "gone 11 days to poor", "tax 12",
            "report 13 days", "fund 2 : fee 5", "fund 2 : gains back beyond 10"};
        for (String whole : wholes) {
            fault(whole, -1);
            for (int blank = whole.lastIndexOf(' '); blank > 0; blank = whole.lastIndexOf(' ', blank - 1)) {
                String part = whole.substring(0, blank);
                fault(part, part.length());
                fault(part + "  ", part.length() + 2);
                fault(part + "\n", part.length());
                fault(part + " \ncut 3", part.length() + 1);
                fault("cut 3\n" + part + "\ncut 3", part.length() + 6);
                fault(part + " ;", part.length() + 1);
            }
            fault(whole + " 5", whole.length() + 1);
            fault(whole + " to", whole.length() + 1);
            fault(whole + ":", whole.length());
        }
    }

    // "of a byte that begins no TOKEN"
    private static void bytesThatBeginNoToken() {
        for (int sign = 0; sign < 256; sign++) {
            boolean isToken = sign >= 'a' && sign <= 'z' || sign >= '0' && sign <= '9' || sign == ':';
            boolean isNone = sign == ' ' || sign == 10;
            // Behind a whole LINE nothing but a blank or its end can stand; a digit joins the number (of 50 to 59).
            fault("fee 5" + (char) sign, isNone || sign >= '0' && sign <= '9' ? -1 : 5);
            fault("fee 5 " + (char) sign, isNone ? -1 : 6);
            // Ahead of all others only words of LINES can stand.
            fault((char) sign + " fee 5", isNone ? -1 : 0);
            // In place of its number.
            fault("fee " + (char) sign, sign >= '0' && sign <= '9' ? -1 : sign == ' ' ? 5 : 4);
            if (!isToken && !isNone) fault("fe" + (char) sign + "e 5", 0);
            // Behind a word: a letter makes another word, a digit is a number, so that the next one can't stand.
            boolean isLetter = sign >= 'a' && sign <= 'z';
            fault("fee" + (char) sign + " 5", isLetter ? 0 : sign >= '0' && sign <= '9' ? 5 : sign == ' ' ? -1 : 3);
        }
    }

    // "A later LINE of the same first word (for the same FUND, or for all) counts in place of one ahead"
    private static void laterLinesCount() {
        Run x = new Run("2, later LINES").after("fund(0)", "fund(0)", "fund(0)");
        x.text("fee 1\nfee 2\nfund 1: fee 3\nfund 1: fee 4\nfund 2: fee 5\nfee 6").is("take()", 0).rules(0, 0, 6, 4, 5);
        x.text("gains stay\ngains back beyond 5\nfund 1: gains back beyond 6\nfund 1: gains stay").is("take()", 1)
            .rules(0, 7, 5, -1, 5);
        x.text("gains back beyond 5\ngains stay\nfund 2: gains stay\nfund 2: gains back beyond 0").is("take()", 2)
            .rules(0, 7, -1, -1, 0);
        x.text("swing 1 over 2\nswing 3 over 4\nfund 0: swing 5 over 6").is("take()", 3).rules(0, 1, 5, 3, 3)
            .rules(0, 2, 6, 4, 4);
        x.text("least 1 to poor\nleast 2 to fund\nfund 2: least 3 to house\ngone 4 days to poor\ngone 5 days to house")
            .is("take()", 4);
        x.rules(0, 5, 2, 2, 3).rules(0, 6, 0, 0, 1).rules(0, 8, 5, 5, 5).rules(0, 9, 1, 1, 1);
    }

    // "one for a FUND ahead of those for all"
    private static void linesForAFundCountAhead() {
        Run x = new Run("2, LINES for a FUND").after("fund(0)", "fund(0)", "fund(0)", "fund(0)");
        x.text("fund 1: fee 0\nfee 9\nfund 3: fee 7").is("take()", 0).rules(0, 0, 9, 0, 9, 7);
        x.text("fund 0: swing 1 over 0\nswing 9 over 8\nfund 3: tax 5\nfund 2: gains stay\ngains back beyond 3").is("take()", 1);
        x.rules(0, 1, 1, 9, 9, 9).rules(0, 2, 0, 8, 8, 8).rules(0, 10, 0, 0, 0, 5).rules(0, 7, 3, 3, -1, 3);
    }

    // "A TEXT without a FAULT is TAKEN: a LAW (at most 6): it holds from NOW on, in place of all ahead of it."
    private static void lawsHoldFromNowOn() {
        Run x = new Run("2, LAWS").after("fund(0)").text("fee 1").is("take()", 0).rules(0, 0, 1).rules(259, 0, 1);
        x.is("go(3)", 3).text("cut 5").is("take()", 1).rules(2, 0, 1).rules(2, 3, 24).rules(3, 0, 0).rules(3, 3, 5)
            .rules(259, 3, 5);
        // Of two on one DAY the latter.
        x.text("fee 2").is("take()", 2).rules(2, 0, 1).rules(3, 0, 2).rules(3, 3, 24);
        x.is("go(1)", 4).rules(4, 0, 2).text("fee 3").is("take()", 3).rules(3, 0, 2).rules(4, 0, 3);
        x.goTo(258).text("fee 4").is("take()", 4).is("go(1)", 259).text("fee 5").is("take()", 5).rules(257, 0, 3).rules(258, 0, 4)
            .rules(259, 0, 5);
        x.is("count(6)", 6).text("fee 6").refuses("take()").rules(259, 0, 5);
    }

    // "what it doesn't tell, and all without one: fee 0, swing 0 over 10000, cut 24, error beyond 0, least 0 to fund, .."
    private static void whatALawDoesNotTell() {
        int[] without = {0, 0, 10000, 24, 0, 0, 0, -1, 300, 0, 0, 0};
        Run x = new Run("2, without").after("fund(0)", "fund(0)");
        for (int what = 0; what < 12; what++) {
            x.rules(0, what, without[what], without[what]).rules(259, what, without[what], without[what]);
        }
        x.law("fund 1: fee 1\nfund 1: swing 2 over 3\nfund 1: cut 4\nfund 1: error beyond 5\nfund 1: least 6 to house\nfund 1: gains back beyond 7\n"
            + "fund 1: gone 8 days to poor\nfund 1: tax 9\nfund 1: report 10 days");
        int[] told = {1, 2, 3, 4, 5, 6, 1, 7, 8, 2, 9, 10};
        for (int what = 0; what < 12; what++) x.rules(0, what, without[what], told[what]);
        x.is("go(1)", 1).law(" ");
        for (int what = 0; what < 12; what++) {
            x.rules(0, what, without[what], told[what]).rules(1, what, without[what], without[what]);
        }
    }
}
