import java.math.BigInteger;
import java.util.ArrayList;
import java.util.HashMap;
import java.util.List;
import java.util.Map;
import java.util.TreeMap;
import java.util.regex.Matcher;
import java.util.regex.Pattern;

/**
 * The document once more, by its words and without a thought of speed: every answer is made anew from what
 * was told. RandomRunsTest holds UnitsWrong against it.
 */
final class Naive {
    static final int NONE = -1;
    static final int ABSENT = Integer.MIN_VALUE;

    record Telling(int subject, int number, int day, int value, int made) { }

    record Trade(int fund, int paper, int day, int pieces, int pence, int made) { }

    static final class Deal {
        int who;
        int fund;
        int day;
        int n;
        int units;
        long coins;
    }

    record Law(int taken, Map<String, List<String>> lines) { }

    record Audit(int fund, int day, int price) { }

    /** What comes out of going through DAYS. */
    static final class Outcome {
        final Map<List<Integer>, Long> price = new HashMap<>();
        final Map<List<Integer>, Long> fee = new HashMap<>();
        final Map<Deal, Long> coins = new HashMap<>();
        final long[] cash = new long[4];
    }

    int now;
    final int[] currency = new int[8];
    final List<Integer> funds = new ArrayList<>();
    final List<Integer> zones = new ArrayList<>();
    final TreeMap<Integer, Boolean> holidays = new TreeMap<>();
    final List<Telling> tellings = new ArrayList<>();
    final List<Trade> trades = new ArrayList<>();
    final List<Deal> deals = new ArrayList<>();
    final List<Law> laws = new ArrayList<>();
    final StringBuilder text = new StringBuilder();
    final Map<List<Integer>, Long> bookedPrice = new HashMap<>();
    final Map<List<Integer>, Long> bookedFee = new HashMap<>();
    final Map<Integer, Integer> gone = new HashMap<>();
    final Map<Integer, Integer> found = new HashMap<>();
    final List<Audit> audits = new ArrayList<>();
    final List<Telling> suspects = new ArrayList<>();

    static int told(long v) {
        return v > 2000000000L ? 2000000000 : v < -2000000000L ? -2000000000 : (int) v;
    }

    static boolean in(long v, long from, long to) {
        return from <= v && v <= to;
    }

    boolean isFund(int f) {
        return in(f, 0, funds.size() - 1);
    }

    boolean isWho(int w, int f) {
        return isFund(f) && (in(w, 0, zones.size() - 1) || (in(w, 20, 19 + funds.size()) && w - 20 > f));
    }

    boolean paper(int p, int c) {
        if (!in(p, 0, 7) || !in(c, 0, 2) || now != 0) return false;
        currency[p] = c;
        return true;
    }

    int fund(int cash) {
        if (!in(cash, 0, 100000000) || funds.size() == 4 || now != 0) return NONE;
        funds.add(cash);
        return funds.size() - 1;
    }

    int holder(int zone) {
        if (!in(zone, -11, 12) || zones.size() == 16) return NONE;
        zones.add(zone);
        return zones.size() - 1;
    }

    boolean holiday(int d) {
        if (d <= now || d > 259 || holidays.containsKey(d)) return false;
        holidays.put(d, true);
        return true;
    }

    boolean open(int d) {
        return in(d, 0, 259) && d % 7 < 5 && !holidays.containsKey(d);
    }

    static boolean subjectFits(int s, int n) {
        return s == 1 ? in(n, 1, 2) : in(s, 0, 3) && in(n, 0, 7);
    }

    static boolean tellable(int s, int n, int d, int v) {
        int[][] bounds = {{1, 10000}, {1, 9999}, {0, 1000}, {100, 10000}};
        return subjectFits(s, n) && in(d, 0, 259) && in(v, bounds[s][0], bounds[s][1]);
    }

    int tell(int s, int n, int d, int v) {
        if (!tellable(s, n, d, v) || tellings.size() == 400 || now == 260) return NONE;
        tellings.add(new Telling(s, n, d, v, now));
        return tellings.size();
    }

    Telling counting(int s, int n, int d, int k, List<Telling> more) {
        List<Telling> heard = new ArrayList<>();
        for (Telling t : tellings) if (t.made <= k) heard.add(t);
        heard.addAll(more);
        Telling best = null;
        for (Telling t : heard) {
            if (t.subject != s || t.number != n || t.day > d) continue;
            if (s >= 2 && t.day != d) continue;
            if (best == null || t.day >= best.day) best = t;
        }
        return best;
    }

    int value(int s, int n, int d, int k, List<Telling> more) {
        if (s == 1 && n == 0) return 1000;
        Telling t = counting(s, n, d, k, more);
        return t != null ? t.value : s == 1 || s == 3 ? 1000 : 0;
    }

    int known(int s, int n, int d, int k) {
        if (!subjectFits(s, n) || !in(d, 0, 259) || !in(k, 0, 259)) return ABSENT;
        return value(s, n, d, k, List.of());
    }

    boolean stale(int s, int n, int d, int k) {
        if (!subjectFits(s, n) || s > 1 || !in(d, 0, 259) || !in(k, 0, 259)) return false;
        Telling t = counting(s, n, d, k, List.of());
        return t != null && t.day != d;
    }

    int trade(int f, int p, int d, int pieces, int pence) {
        if (!isFund(f) || !in(p, 0, 7) || !in(d, 0, now) || now == 260 || trades.size() == 120) return NONE;
        if (!in(pieces, -10000, 10000) || !in(pence, -100000000, 100000000)) return NONE;
        trades.add(new Trade(f, p, d, pieces, pence, now));
        return trades.size() - 1;
    }

    int deal(int who, int f, int n, int hour) {
        if (!isWho(who, f) || !in(hour, 0, 23) || n == 0 || !in(n, -10000, 10000) || deals.size() == 200) return NONE;
        int zone = who < 20 ? zones.get(who) : 0;
        int day = NONE;
        if (open(now) && hour - zone < law(f, now, 3)) day = now;
        for (int d = now + 1; d < 260 && day == NONE; d++) if (open(d)) day = d;
        if (day == NONE) return NONE;
        Deal deal = new Deal();
        deal.who = who;
        deal.fund = f;
        deal.n = n;
        deal.day = day;
        deals.add(deal);
        return deals.size() - 1;
    }

    int feed(int... five) {
        if (text.length() + 20 > 600) return NONE;
        for (int v : five) {
            String hex = String.format("%08x", v);
            for (int i = 0; i < 8; i += 2) text.append((char) Integer.parseInt(hex.substring(i, i + 2), 16));
        }
        return text.length();
    }

    boolean end(int n) {
        if (!in(n, 0, text.length())) return false;
        text.setLength(n);
        return true;
    }

    static final String[] FORMS = {
        "fee N5000", "swing N1000 over N10000", "cut N24", "error beyond N5000",
        "least N100000 to P", "gains stay", "gains back beyond N100000",
        "gone N300 days to P", "tax N90", "report N60 days"};

    static boolean fits(String token, String form) {
        if (form.equals("P")) return token.matches("fund|house|poor");
        if (form.startsWith("N")) {
            return token.matches("[0-9]+") && new BigInteger(token).compareTo(new BigInteger(form.substring(1))) <= 0;
        }
        return token.equals(form);
    }

    /** The FAULT; the LINES go into the map by their scope and first word. */
    int read(Map<String, List<String>> lines) {
        int from = 0;
        while (from <= text.length()) {
            int to = text.indexOf("\n", from);
            if (to < 0) to = text.length();
            List<String> tokens = new ArrayList<>();
            List<Integer> places = new ArrayList<>();
            Matcher m = Pattern.compile("[a-z]+|[0-9]+|[^ ]", Pattern.DOTALL).matcher(text.substring(from, to));
            while (m.find()) {
                tokens.add(m.group());
                places.add(from + m.start());
            }
            if (!tokens.isEmpty()) {
                int good = -1;
                boolean whole = false;
                for (String prefix : new String[] {"", "fund N3 : "}) {
                    for (String form : FORMS) {
                        String[] want = (prefix + form).split(" ");
                        int i = 0;
                        while (i < want.length && i < tokens.size() && fits(tokens.get(i), want[i])) i++;
                        good = Math.max(good, i);
                        whole |= i == want.length && i == tokens.size();
                    }
                }
                if (!whole) return good < tokens.size() ? places.get(good) : to;
                boolean alone = tokens.get(0).equals("fund");
                List<String> rest = alone ? tokens.subList(3, tokens.size()) : tokens;
                String scope = alone ? new BigInteger(tokens.get(1)).toString() : "all";
                lines.put(scope + " " + rest.get(0), new ArrayList<>(rest));
            }
            from = to + 1;
        }
        return NONE;
    }

    int fault() {
        return read(new HashMap<>());
    }

    int take() {
        Map<String, List<String>> lines = new HashMap<>();
        if (read(lines) != NONE || laws.size() == 6 || now == 260) return NONE;
        laws.add(new Law(now, lines));
        text.setLength(0);
        return laws.size() - 1;
    }

    int law(int f, int day, int what) {
        String[] words = {"fee", "swing", "swing", "cut", "error", "least", "least", "gains", "gone", "gone", "tax", "report"};
        int[] place = {1, 1, 3, 1, 2, 1, 3, 3, 1, 4, 1, 1};
        int[] without = {0, 0, 10000, 24, 0, 0, 0, NONE, 300, 0, 0, 0};
        Law last = null;
        for (Law l : laws) if (l.taken <= day) last = l;
        List<String> line = last == null ? null : last.lines.get(f + " " + words[what]);
        if (line == null && last != null) line = last.lines.get("all " + words[what]);
        if (line == null) return without[what];
        if (place[what] >= line.size()) return NONE;
        String token = line.get(place[what]);
        return switch (token) {
            case "fund" -> 0;
            case "house" -> 1;
            case "poor" -> 2;
            default -> new BigInteger(token).intValueExact();
        };
    }

    int rule(int f, int day, int what) {
        return isFund(f) && in(day, 0, 259) && in(what, 0, 11) ? law(f, day, what) : ABSENT;
    }

    static long bounded(long v, long least, long most) {
        return Math.max(least, Math.min(most, v));
    }

    long unitsBehind(int who, int f, int day) {
        long sum = 0;
        for (Deal d : deals) if (d.who == who && d.fund == f && d.day <= day) sum += d.units;
        return sum;
    }

    long allAhead(int f, int day) {
        long sum = 0;
        for (Deal d : deals) if (d.fund == f && d.day < day) sum += d.units;
        return sum;
    }

    static long coins(long units, long price) {
        BigInteger[] parts = BigInteger.valueOf(Math.abs(units)).multiply(BigInteger.valueOf(price)).divideAndRemainder(BigInteger.valueOf(100));
        return parts[0].longValueExact() + (units > 0 && parts[1].signum() > 0 ? 1 : 0);
    }

    /**
     * All DAYS from 0 to last. DAYS before madeFrom have DEALS and FEES as BOOKED, the others as they come out;
     * BOOKED prices are wanted only on DAYS from madeFrom on.
     */
    Outcome through(int k, int last, List<Telling> more, int madeFrom) {
        Outcome o = new Outcome();
        long[][] pieces = new long[4][8];
        for (int f = 0; f < funds.size(); f++) o.cash[f] = funds.get(f);
        for (int day = 0; day <= last; day++) {
            for (int f = 0; f < funds.size(); f++) {
                for (int p = 0; p < 8; p++) {
                    pieces[f][p] = bounded(pieces[f][p] * value(3, p, day, k, more) / 1000, -1000000, 1000000);
                    o.cash[f] += pieces[f][p] * value(2, p, day, k, more) * value(1, currency[p], day, k, more) / 1000;
                }
                for (Trade t : trades) {
                    if (t.fund != f || t.day != day || t.made > k) continue;
                    pieces[f][t.paper] = bounded(pieces[f][t.paper] + t.pieces, -1000000, 1000000);
                    o.cash[f] += t.pence;
                }
                if (open(day)) close(o, pieces[f], f, day, k, more, day >= madeFrom);
            }
        }
        return o;
    }

    void close(Outcome o, long[] pieces, int f, int day, int k, List<Telling> more, boolean made) {
        if (made) {
            long assets = o.cash[f];
            for (int p = 0; p < 8; p++) {
                assets += pieces[p] * value(0, p, day, k, more) * value(1, currency[p], day, k, more) / 1000;
            }
            for (int g = 0; g < f; g++) assets += unitsBehind(20 + f, g, day) * o.price.get(List.of(g, day)) / 100;
            long fee = assets < 0 ? 0 : assets * law(f, day, 0) / 1000000;
            long all = allAhead(f, day);
            long price = all == 0 ? 10000 : bounded((assets - fee) * 100 / all, 0, 10000000);
            long flow = 0;
            for (Deal d : deals) if (d.fund == f && d.day == day) flow += d.units;
            if (10000 * flow > law(f, day, 2) * all) price = Math.min(10000000, price * (10000 + law(f, day, 1)) / 10000);
            if (-10000 * flow > law(f, day, 2) * all) price = price * (10000 - law(f, day, 1)) / 10000;
            o.price.put(List.of(f, day), price);
            o.fee.put(List.of(f, day), fee);
        }
        o.cash[f] -= made ? o.fee.get(List.of(f, day)) : bookedFee.get(List.of(f, day));
        for (Deal d : deals) {
            if (d.fund != f || d.day != day) continue;
            long c = made ? coins(d.units, o.price.get(List.of(f, day))) : d.coins;
            o.coins.put(d, c);
            o.cash[f] += d.units > 0 ? c : -c;
            if (d.who >= 20) o.cash[d.who - 20] -= d.units > 0 ? c : -c;
        }
    }

    int go(int n) {
        if (!in(n, 0, 40)) return NONE;
        for (int i = 0; i < n && now < 260; i++) {
            if (open(now)) {
                for (Deal d : deals) {
                    if (d.day == now) d.units = d.n > 0 ? d.n : (int) -Math.min(-d.n, unitsBehind(d.who, d.fund, now));
                }
            }
            Outcome o = through(now, now, List.of(), now);
            for (int f = 0; f < funds.size() && open(now); f++) {
                bookedPrice.put(List.of(f, now), o.price.get(List.of(f, now)));
                bookedFee.put(List.of(f, now), o.fee.get(List.of(f, now)));
            }
            for (Deal d : deals) if (d.day == now && open(now)) d.coins = o.coins.get(d);
            now++;
        }
        return now;
    }

    int nowKnown() {
        return Math.min(now, 259);
    }

    Outcome right(int k) {
        return through(k, Math.min(k, now - 1), List.of(), 0);
    }

    Outcome asBooked(int k) {
        return through(k, Math.min(k, now - 1), List.of(), 1000);
    }

    boolean over(int f, int day) {
        return isFund(f) && open(day) && day < now;
    }

    int booked(int f, int day) {
        return over(f, day) ? told(bookedPrice.get(List.of(f, day))) : NONE;
    }

    int right(int f, int day, int k) {
        return over(f, day) && in(k, day, nowKnown()) ? told(right(k).price.get(List.of(f, day))) : NONE;
    }

    int fee(int f, int day, int what) {
        if (!over(f, day) || !in(what, 0, 1)) return NONE;
        return told(what == 0 ? bookedFee.get(List.of(f, day)) : right(nowKnown()).fee.get(List.of(f, day)));
    }

    int error(int f, int day, int k) {
        if (!over(f, day) || !in(k, day, nowKnown())) return ABSENT;
        return told(bookedPrice.get(List.of(f, day)) - right(k).price.get(List.of(f, day)));
    }

    boolean counts(Outcome right, int f, int day, long beyond) {
        long r = right.price.get(List.of(f, day));
        long e = bookedPrice.get(List.of(f, day)) - r;
        return 10000 * e > beyond * r || -10000 * e > beyond * r;
    }

    int errors(int f) {
        if (!isFund(f)) return NONE;
        Outcome r = right(nowKnown());
        int many = 0;
        for (int d = 0; d < now; d++) if (open(d) && counts(r, f, d, law(f, nowKnown(), 4))) many++;
        return many;
    }

    int units(int who, int f) {
        return isWho(who, f) ? (int) unitsBehind(who, f, 259) : NONE;
    }

    /** LOST, GAINED, CLAIM, how it is. */
    long[] claim(Outcome r, int who, int f, int k, long beyond) {
        long lost = 0;
        long gained = 0;
        for (Deal d : deals) {
            if (d.who != who || d.fund != f || d.day > Math.min(k, now - 1) || !open(d.day) || !counts(r, f, d.day, beyond)) continue;
            long less = (d.units > 0 ? 1 : -1) * (d.coins - r.coins.get(d));
            if (less > 0) lost += less; else gained -= less;
        }
        int back = law(f, k, 7);
        long claim = back == NONE ? lost : lost - gained;
        if (back != NONE && claim < 0 && claim >= -back) claim = 0;
        int how = 0;
        if (claim > 0 && claim < law(f, k, 5)) how = 1;
        else if (claim > 0 && gone.getOrDefault(who, 1000) <= k) {
            how = found.containsKey(f) && k - found.get(f) >= law(f, k, 8) ? 3 : 2;
        }
        return new long[] {lost, gained, claim, how};
    }

    int claim(int who, int f, int k, int what) {
        if (!isWho(who, f) || !in(k, 0, nowKnown()) || !in(what, 0, 3)) return ABSENT;
        return told(claim(right(k), who, f, k, law(f, k, 4))[what]);
    }

    List<Integer> whos(int f) {
        List<Integer> all = new ArrayList<>();
        for (int w = 0; w < 24; w++) if (isWho(w, f)) all.add(w);
        return all;
    }

    /** The PARTY a CLAIM above 0 goes to; 0 and less: none. */
    int to(int f, int who, int k, long how) {
        if (how == 0) return who;
        if (how == 2) return 20 + f;
        int p = law(f, k, how == 1 ? 6 : 9);
        return p == 0 ? 20 + f : p == 1 ? 40 : 41;
    }

    long owes(int f, int k) {
        Outcome r = right(k);
        long sum = r.cash[f] - asBooked(k).cash[f];
        for (int who : whos(f)) {
            long[] c = claim(r, who, f, k, law(f, k, 4));
            if (c[2] < 0 || c[3] == 2 || to(f, who, k, c[3]) != 20 + f) sum += c[2];
        }
        return sum;
    }

    int house(int f, int k) {
        return isFund(f) && in(k, 0, nowKnown()) ? told(owes(f, k)) : ABSENT;
    }

    int cash(int f, int what) {
        if (!isFund(f) || !in(what, 0, 1)) return ABSENT;
        return told((what == 0 ? asBooked(nowKnown()) : right(nowKnown())).cash[f]);
    }

    long tax(Deal sale, Map<Deal, Long> coins) {
        if (sale.units >= 0) return 0;
        List<Deal> own = new ArrayList<>();
        for (int day = 0; day < 260; day++) {
            for (Deal d : deals) if (d.day == day && d.who == sale.who && d.fund == sale.fund && d.units != 0) own.add(d);
        }
        long cost = 0;
        long has = 0;
        for (Deal d : own) {
            if (d.units > 0) {
                cost += coins.get(d);
            } else {
                long share = cost * -d.units / has;
                if (d == sale) return Math.max(0, coins.get(d) - share) * law(d.fund, d.day, 10) / 100;
                cost -= share;
            }
            has += d.units;
        }
        throw new IllegalStateException("no such sale");
    }

    int dealt(int deal, int what) {
        if (!in(deal, 0, deals.size() - 1)) return ABSENT;
        Deal d = deals.get(deal);
        Map<Deal, Long> booked = new HashMap<>();
        for (Deal other : deals) booked.put(other, other.coins);
        return switch (what) {
            case 0 -> d.who;
            case 1 -> d.fund;
            case 2 -> d.day;
            case 3 -> d.units;
            case 4 -> told(d.coins);
            case 5 -> told(right(nowKnown()).coins.getOrDefault(d, 0L));
            case 6 -> told(tax(d, booked));
            case 7 -> told(tax(d, right(nowKnown()).coins));
            default -> ABSENT;
        };
    }

    boolean gone(int h) {
        if (!in(h, 0, zones.size() - 1) || gone.containsKey(h)) return false;
        gone.put(h, now);
        return true;
    }

    boolean found(int f) {
        if (!isFund(f) || found.containsKey(f) || now == 260) return false;
        found.put(f, now);
        return true;
    }

    int due(int f) {
        if (!isFund(f) || !found.containsKey(f)) return NONE;
        int left = law(f, found.get(f), 11);
        int day = found.get(f);
        while (left > 0 && day < 260) {
            day++;
            if (open(day)) left--;
        }
        return day < 260 ? day : NONE;
    }

    int audit(int f, int day, int price) {
        if (!over(f, day) || !in(price, 0, 10000000) || audits.size() == 8) return NONE;
        audits.add(new Audit(f, day, price));
        return audits.size();
    }

    int suspect(int s, int n, int d, int v) {
        if (!tellable(s, n, d, v) || suspects.size() == 7) return NONE;
        suspects.add(new Telling(s, n, d, v, now));
        return suspects.size() - 1;
    }

    int forget() {
        int both = audits.size() + suspects.size();
        audits.clear();
        suspects.clear();
        return both;
    }

    boolean explains(int heap) {
        List<Telling> more = new ArrayList<>();
        for (int i = 0; i < suspects.size(); i++) if ((heap & 1 << i) != 0) more.add(suspects.get(i));
        int last = -1;
        for (Audit a : audits) last = Math.max(last, a.day);
        Outcome o = through(nowKnown(), last, more, 0);
        for (Audit a : audits) if (o.price.get(List.of(a.fund, a.day)) != a.price) return false;
        return true;
    }

    List<Integer> explaining() {
        List<Integer> best = new ArrayList<>();
        for (int heap = 0; heap < 1 << suspects.size(); heap++) {
            int many = Integer.bitCount(heap);
            if (!best.isEmpty() && many > Integer.bitCount(best.get(0))) continue;
            if (!explains(heap)) continue;
            if (!best.isEmpty() && many < Integer.bitCount(best.get(0))) best.clear();
            best.add(heap);
        }
        return best;
    }

    int explain() {
        List<Integer> all = explaining();
        return all.isEmpty() ? NONE : all.get(0);
    }

    int rivals() {
        return explaining().size() - 1;
    }

    int alarm(int f, int n) {
        if (!isFund(f) || !in(n, 0, 10000)) return NONE;
        List<Integer> days = new ArrayList<>();
        for (int d = 0; d < now; d++) if (open(d)) days.add(d);
        for (int i = 1; i < days.size(); i++) {
            long was = bookedPrice.get(List.of(f, days.get(i - 1)));
            long is = bookedPrice.get(List.of(f, days.get(i)));
            if (Math.abs(is - was) * 10000 > n * was) return days.get(i);
        }
        return NONE;
    }

    int beside(int f, int beyond) {
        if (!isFund(f) || !in(beyond, 0, 5000)) return ABSENT;
        Outcome r = right(nowKnown());
        long sum = 0;
        for (int who : whos(f)) sum += Math.max(0, claim(r, who, f, nowKnown(), beyond)[2]);
        return told(sum);
    }

    TreeMap<Integer, Long> balances(int f) {
        TreeMap<Integer, Long> all = new TreeMap<>();
        for (int p = 0; p < 42; p++) {
            boolean is = p >= 40 || in(p, 0, zones.size() - 1) || in(p, 20, 19 + funds.size());
            if (is) all.put(p, 0L);
        }
        int k = nowKnown();
        Outcome r = right(k);
        for (int who : whos(f)) {
            long[] c = claim(r, who, f, k, law(f, k, 4));
            int to = to(f, who, k, c[3]);
            all.merge(to, c[2], Long::sum);
            all.merge(20 + f, -c[2], Long::sum);
        }
        long owed = owes(f, k);
        all.merge(20 + f, owed, Long::sum);
        all.merge(40, -owed, Long::sum);
        return all;
    }

    int balance(int f, int party) {
        if (!isFund(f)) return ABSENT;
        Long b = balances(f).get(party);
        return b == null ? ABSENT : told(b);
    }

    /** All ways to put what is left into heaps that sum to 0, the first ones first. */
    static void ways(long[] sums, int left, List<Integer> heaps, List<List<Integer>> all) {
        if (left == 0) {
            all.add(new ArrayList<>(heaps));
            return;
        }
        for (int heap = 1; heap <= left; heap++) {
            if ((heap & ~left) != 0 || (heap & Integer.lowestOneBit(left)) == 0 || sums[heap] != 0) continue;
            heaps.add(heap);
            ways(sums, left & ~heap, heaps, all);
            heaps.remove(heaps.size() - 1);
        }
    }

    List<long[]> paying(int f) {
        TreeMap<Integer, Long> all = balances(f);
        all.values().removeIf(v -> v == 0);
        List<Integer> parties = new ArrayList<>(all.keySet());
        if (parties.size() > 10) return null;
        long[] sums = new long[1 << parties.size()];
        for (int heap = 0; heap < sums.length; heap++) {
            for (int i = 0; i < parties.size(); i++) if ((heap & 1 << i) != 0) sums[heap] += all.get(parties.get(i));
        }
        List<List<Integer>> found = new ArrayList<>();
        ways(sums, sums.length - 1, new ArrayList<>(), found);
        List<Integer> best = found.get(0);
        for (List<Integer> way : found) if (way.size() > best.size()) best = way;
        List<long[]> paid = new ArrayList<>();
        for (int heap : best) {
            List<Integer> in = new ArrayList<>();
            for (int i = 0; i < parties.size(); i++) if ((heap & 1 << i) != 0) in.add(parties.get(i));
            long sum = 0;
            for (int i = 0; i + 1 < in.size(); i++) {
                sum += all.get(in.get(i));
                if (sum < 0) paid.add(new long[] {in.get(i), in.get(i + 1), -sum});
                else paid.add(new long[] {in.get(i + 1), in.get(i), sum});
            }
        }
        return paid;
    }

    int payments(int f) {
        List<long[]> paid = isFund(f) ? paying(f) : null;
        return paid == null ? NONE : paid.size();
    }

    int payment(int f, int k, int what) {
        List<long[]> paid = isFund(f) ? paying(f) : null;
        return paid == null || !in(k, 0, paid.size() - 1) || !in(what, 0, 2) ? ABSENT : told(paid.get(k)[what]);
    }

    int count(int what) {
        int[] all = {now, funds.size(), zones.size(), tellings.size(), trades.size(), deals.size(), laws.size(),
            text.length(), audits.size(), suspects.size(), holidays.size()};
        if (in(what, 0, 10)) return all[what];
        return isFund(what - 20) ? (int) allAhead(what - 20, 260) : NONE;
    }
}
