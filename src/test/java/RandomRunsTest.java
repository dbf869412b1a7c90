import java.nio.charset.StandardCharsets;
import java.util.ArrayList;
import java.util.List;
import java.util.Random;

/**
 * Runs of calls by chance, the same ones in every test, on UnitsWrong and on Naive: all answers must be alike.
 * Arguments: how many runs (400), the first seed (1).
 */
public final class RandomRunsTest {
    private static final int CALLS = 512;

    private final Random random;
    private final UnitsWrong program = new UnitsWrong();
    private final Naive naive = new Naive();
    private final List<String> done = new ArrayList<>();
    private final boolean wild;
    private final int pace;
    private final int lastDay;
    /** The kind of call by which a limit is reached (TELLINGS, TRADES or DEALS), or -1. */
    private final int greed;
    private String wrong;

    private RandomRunsTest(long seed) {
        random = new Random(seed);
        wild = random.nextInt(4) == 0;
        pace = 1 + random.nextInt(6);
        lastDay = random.nextInt(12) == 0 ? 260 : 10 + random.nextInt(40);
        greed = seed % 25 == 0 ? new int[] {4, 15, 20}[(int) (seed / 25 % 3)] : -1;
    }

    public static void main(String[] args) {
        int runs = args.length > 0 ? Integer.parseInt(args[0]) : 400;
        int first = args.length > 1 ? Integer.parseInt(args[1]) : 1;
        int failed = 0;
        for (int seed = first; seed < first + runs && failed < 3; seed++) {
            RandomRunsTest run = new RandomRunsTest(seed);
            run.go();
            if (run.wrong != null) {
                failed++;
                System.out.println("seed " + seed + ", call " + run.done.size() + ": " + run.wrong);
                if (args.length > 2) run.done.forEach(System.out::println);
            }
        }
        if (failed != 0) System.exit(1);
        System.out.println(runs + " runs by chance are alike");
    }

    private int below(int n) {
        return random.nextInt(n);
    }

    private int from(int least, int most) {
        return least + random.nextInt(most - least + 1);
    }

    /** Mostly within the bounds, now and then at or just beyond one, rarely anything. */
    private int about(int least, int most) {
        int kind = below(40);
        if (kind == 0) return random.nextInt();
        if (kind == 1) return least - 1;
        if (kind == 2) return most + 1;
        if (kind == 3) return least;
        if (kind == 4) return most;
        return from(least, most);
    }

    private int someFund() {
        return below(25) == 0 ? about(0, 3) : below(Math.max(1, naive.funds.size()));
    }

    private int someWho() {
        if (below(25) == 0) return random.nextBoolean() ? about(0, 24) : random.nextInt();
        if (below(3) == 0 && naive.funds.size() > 1) return 20 + below(naive.funds.size());
        return below(Math.max(1, naive.zones.size()));
    }

    private int someDay() {
        int kind = below(12);
        if (kind == 0) return about(0, 259);
        if (kind == 1) return Math.min(259, naive.now + below(5));
        return below(Math.max(1, Math.min(naive.now, 259) + 1));
    }

    /** The next DEAL from that number on by which something was sold. */
    private int someSale(int deal) {
        for (int i = 0; i < naive.deals.size(); i++) {
            int next = Math.floorMod(deal + i, naive.deals.size());
            if (naive.deals.get(next).units < 0) return next;
        }
        return deal;
    }

    private int someK() {
        return below(3) == 0 ? someDay() : Math.min(259, naive.now);
    }

    private int[] someTelling() {
        int subject = below(30) == 0 ? about(0, 3) : below(4);
        int number = below(20) == 0 ? about(0, 7) : subject == 1 ? from(1, 2) : below(3);
        int value = switch (subject) {
            case 0 -> wild ? about(1, 10000) : below(20) == 0 ? about(1, 10000) : from(90, 110);
            case 1 -> wild ? about(1, 9999) : from(900, 1100);
            case 2 -> wild ? about(0, 1000) : about(0, 5);
            default -> wild ? about(100, 10000) : new int[] {100, 500, 999, 1000, 1500, 2000}[below(6)];
        };
        return new int[] {subject, number, someDay(), value};
    }

    private void same(String call, long got, long want) {
        done.add(call + " = " + want);
        if (got != want && wrong == null) wrong = call + " answered " + got + ", by the words it is " + want;
    }

    private void same(String call, boolean got, boolean want) {
        same(call, got ? 1 : 0, want ? 1 : 0);
    }

    private void go() {
        for (int i = below(4); i >= 0; i--) {
            int cash = wild ? about(0, 100000000) : from(0, 200000);
            same("fund " + cash, program.fund(cash), naive.fund(cash));
        }
        for (int i = from(2, 8); i > 0; i--) {
            int zone = about(-11, 12);
            same("holder " + zone, program.holder(zone), naive.holder(zone));
        }
        if (below(2) == 0) text();
        while (done.size() < CALLS - 30 && wrong == null) {
            int kind = below(100);
            if (greed >= 0 && below(greed == 4 ? 100 : greed == 15 ? 200 : 135) < 95) act(greed);
            else if (kind < 50) act(kind);
            else ask(kind - 50);
        }
    }

    private void act(int kind) {
        if (kind < 2) {
            int p = about(0, 7);
            int c = about(0, 2);
            same("paper " + p + " " + c, program.paper(p, c), naive.paper(p, c));
        } else if (kind < 3) {
            int z = about(-11, 12);
            same("holder " + z, program.holder(z), naive.holder(z));
        } else if (kind < 4) {
            int d = naive.now + about(0, 12);
            same("holiday " + d, program.holiday(d), naive.holiday(d));
        } else if (kind < 15) {
            int[] t = someTelling();
            same("tell " + t[0] + " " + t[1] + " " + t[2] + " " + t[3], program.tell(t[0], t[1], t[2], t[3]), naive.tell(t[0], t[1], t[2], t[3]));
        } else if (kind < 20) {
            int f = someFund();
            int p = below(12) == 0 ? about(0, 7) : below(3);
            int d = someDay();
            int pieces = wild ? about(-10000, 10000) : from(-300, 1000);
            int pence = wild ? about(-100000000, 100000000) : -pieces * 100;
            same("trade " + f + " " + p + " " + d + " " + pieces + " " + pence, program.trade(f, p, d, pieces, pence), naive.trade(f, p, d, pieces, pence));
        } else if (kind < 32) {
            int w = someWho();
            int f = w >= 20 && w < 24 && below(10) != 0 ? below(w - 19) : someFund();
            int n = wild ? about(-10000, 10000) : from(-60, 100);
            int h = about(0, 23);
            same("deal " + w + " " + f + " " + n + " " + h, program.deal(w, f, n, h), naive.deal(w, f, n, h));
        } else if (kind < 34) {
            text();
        } else if (kind < 42) {
            int n = below(30) == 0 ? about(0, 40) : below(pace + 1);
            if (naive.now + n <= lastDay || n < 0) same("go " + n, program.go(n), naive.go(n));
            if (lastDay == 260 && below(3) == 0) same("go 40", program.go(40), naive.go(40));
        } else if (kind < 43) {
            int h = below(3) == 0 ? about(0, 15) : below(Math.max(1, naive.zones.size()));
            same("gone " + h, program.gone(h), naive.gone(h));
        } else if (kind < 44) {
            int f = someFund();
            same("found " + f, program.found(f), naive.found(f));
        } else if (kind < 48) {
            explain();
        } else {
            int w = below(10) == 0 ? random.nextInt() : about(0, 24);
            same("count " + w, program.count(w), naive.count(w));
        }
    }

    private void explain() {
        if (naive.now > 60 || below(2) == 0) return;
        for (int i = below(4); i > 0; i--) {
            int f = someFund();
            int d = someDay();
            int right = naive.right(f, d, naive.nowKnown());
            int price = below(3) != 0 ? right : about(0, 10000000);
            same("audit " + f + " " + d + " " + price, program.audit(f, d, price), naive.audit(f, d, price));
        }
        for (int i = below(4); i > 0; i--) {
            int[] t = someTelling();
            same("suspect " + t[0] + " " + t[1] + " " + t[2] + " " + t[3], program.suspect(t[0], t[1], t[2], t[3]), naive.suspect(t[0], t[1], t[2], t[3]));
        }
        if (naive.suspects.isEmpty() || naive.suspects.size() > 5) {
            same("forget", program.forget(), naive.forget());
            return;
        }
        if (below(3) == 0) aimAudit();
        if (below(2) == 0) same("rivals", program.rivals(), naive.rivals());
        same("explain", program.explain(), naive.explain());
        same("rivals", program.rivals(), naive.rivals());
    }

    /** An AUDIT that some heap of SUSPECTS explains. */
    private void aimAudit() {
        same("forget", program.forget(), naive.forget());
        for (int i = from(1, 5); i > 0; i--) {
            int[] t = someTelling();
            same("suspect " + t[0] + " " + t[1] + " " + t[2] + " " + t[3], program.suspect(t[0], t[1], t[2], t[3]), naive.suspect(t[0], t[1], t[2], t[3]));
        }
        int heap = below(1 << naive.suspects.size());
        List<Naive.Telling> more = new ArrayList<>();
        for (int i = 0; i < naive.suspects.size(); i++) if ((heap >> i & 1) != 0) more.add(naive.suspects.get(i));
        Naive.Outcome o = naive.through(naive.nowKnown(), naive.now - 1, more, 0);
        for (int i = from(1, 4); i > 0; i--) {
            int f = someFund();
            int d = someDay();
            Long price = o.price.get(List.of(f, d));
            int told = price == null ? 5 : price.intValue();
            same("audit " + f + " " + d + " " + told, program.audit(f, d, told), naive.audit(f, d, told));
        }
    }

    private void text() {
        if (below(6) == 0) {
            int n = about(0, 600);
            same("end " + n, program.end(n), naive.end(n));
        } else {
            same("end 0", program.end(0), naive.end(0));
        }
        StringBuilder lines = new StringBuilder();
        for (int i = from(1, 8); i > 0; i--) lines.append(line()).append(below(20) == 0 ? "\n\n" : "\n");
        if (below(5) == 0) lines.setLength(lines.length() - 1);
        if (below(8) == 0 && lines.length() > 0) lines.setCharAt(below(lines.length()), (char) below(256));
        byte[] bytes = lines.toString().getBytes(StandardCharsets.ISO_8859_1);
        int had = naive.text.length();
        for (int i = 0; i < bytes.length; i += 20) {
            int[] v = new int[5];
            for (int j = 0; j < 20; j++) v[j / 4] = v[j / 4] << 8 | (i + j < bytes.length ? bytes[i + j] & 255 : 32);
            same("feed " + lines, program.feed(v[0], v[1], v[2], v[3], v[4]), naive.feed(v[0], v[1], v[2], v[3], v[4]));
        }
        int n = had + bytes.length;
        if (below(5) != 0) same("end " + n, program.end(n), naive.end(n));
        same("fault", program.fault(), naive.fault());
        if (naive.now > below(20) || naive.laws.isEmpty() || below(6) == 0) same("take", program.take(), naive.take());
        int f = someFund();
        int d = someDay();
        for (int what = -1; what < 13; what += from(1, 4)) same("rule " + f + " " + d + " " + what, program.rule(f, d, what), naive.rule(f, d, what));
    }

    private String line() {
        String blank = below(10) == 0 ? "  " : " ";
        String scope = below(4) == 0 ? "fund " + about(0, 3) + ":" + blank : "";
        String p = new String[] {"fund", "house", "poor", "me"}[below(20) == 0 ? 3 : below(3)];
        String line = switch (below(12)) {
            case 0 -> "fee " + number(0, 5000);
            case 1 -> "swing " + number(0, 1000) + " over " + number(0, 10000);
            case 2 -> "cut " + number(0, 24);
            case 3 -> "error beyond " + (below(2) == 0 ? number(0, 5000) : "" + from(0, 50));
            case 4 -> "least " + (below(2) == 0 ? number(0, 100000) : "" + from(0, 300)) + " to " + p;
            case 5 -> "gains stay";
            case 6 -> "gains back beyond " + (below(2) == 0 ? number(0, 100000) : "" + from(0, 300));
            case 7 -> "gone " + (below(2) == 0 ? number(0, 300) : "" + from(0, 5)) + " days to " + p;
            case 8, 10 -> "tax " + number(0, 90);
            case 9 -> "report " + number(0, 60) + " days";
            default -> below(3) == 0 ? "fees 1" : "";
        };
        return scope.isEmpty() || !line.isEmpty() || below(4) == 0 ? scope + line.replace(" ", below(12) == 0 ? "" : blank) : "";
    }

    private String number(int least, int most) {
        if (below(60) == 0) return "00" + from(least, most);
        if (below(60) == 0) return "" + (most + 1);
        if (below(90) == 0) return "99999999999999999999";
        return "" + from(least, most);
    }

    private void ask(int kind) {
        int f = someFund();
        int w = someWho();
        int d = someDay();
        int k = someK();
        int what = about(0, 3);
        if (kind < 2) same("open " + d, program.open(d), naive.open(d));
        else if (kind < 5) {
            int[] t = someTelling();
            same("known " + t[0] + " " + t[1] + " " + t[2] + " " + k, program.known(t[0], t[1], t[2], k), naive.known(t[0], t[1], t[2], k));
            same("stale " + t[0] + " " + t[1] + " " + t[2] + " " + k, program.stale(t[0], t[1], t[2], k), naive.stale(t[0], t[1], t[2], k));
        } else if (kind < 9) same("booked " + f + " " + d, program.booked(f, d), naive.booked(f, d));
        else if (kind < 13) same("right " + f + " " + d + " " + k, program.right(f, d, k), naive.right(f, d, k));
        else if (kind < 15) same("fee " + f + " " + d + " " + what / 2, program.fee(f, d, what / 2), naive.fee(f, d, what / 2));
        else if (kind < 16) same("fee " + f + " " + d + " " + what, program.fee(f, d, what), naive.fee(f, d, what));
        else if (kind < 18) same("error " + f + " " + d + " " + k, program.error(f, d, k), naive.error(f, d, k));
        else if (kind < 20) same("errors " + f, program.errors(f), naive.errors(f));
        else if (kind < 22) same("units " + w + " " + f, program.units(w, f), naive.units(w, f));
        else if (kind < 27) same("claim " + w + " " + f + " " + k + " " + what, program.claim(w, f, k, what), naive.claim(w, f, k, what));
        else if (kind < 30) same("house " + f + " " + k, program.house(f, k), naive.house(f, k));
        else if (kind < 32) same("cash " + f + " " + what / 2, program.cash(f, what / 2), naive.cash(f, what / 2));
        else if (kind < 37) {
            int deal = below(20) == 0 ? about(0, 199) : below(Math.max(1, naive.deals.size()));
            if (below(2) == 0) deal = someSale(deal);
            int part = below(3) == 0 ? from(6, 7) : about(0, 7);
            same("dealt " + deal + " " + part, program.dealt(deal, part), naive.dealt(deal, part));
        } else if (kind < 38) same("due " + f, program.due(f), naive.due(f));
        else if (kind < 40) {
            int n = below(3) == 0 ? about(0, 10000) : below(100);
            same("alarm " + f + " " + n, program.alarm(f, n), naive.alarm(f, n));
        } else if (kind < 42) {
            int beyond = below(3) == 0 ? about(0, 5000) : below(100);
            same("beside " + f + " " + beyond, program.beside(f, beyond), naive.beside(f, beyond));
        } else if (kind < 45) {
            int party = below(3) == 0 ? about(0, 41) : below(2) == 0 ? from(40, 41) : w;
            same("balance " + f + " " + party, program.balance(f, party), naive.balance(f, party));
        } else if (kind < 47) same("payments " + f, program.payments(f), naive.payments(f));
        else {
            int many = Math.max(1, naive.payments(f));
            int at = below(6) == 0 ? about(0, 9) : below(many);
            same("payment " + f + " " + at + " " + what, program.payment(f, at, what), naive.payment(f, at, what));
        }
    }
}
