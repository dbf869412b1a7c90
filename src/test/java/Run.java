import java.lang.reflect.InvocationTargetException;
import java.lang.reflect.Method;
import java.nio.charset.StandardCharsets;
import java.util.ArrayList;
import java.util.Arrays;
import java.util.HashMap;
import java.util.LinkedHashSet;
import java.util.List;
import java.util.Map;
import java.util.Set;

/**
 * A run of calls on a new object, each written as in the document ("tell(0, 0, 0, 100)"). What is refused is held
 * against the same run without it: every answer that can be asked for must be alike, then and after more calls.
 * No object is asked more often than the 512 times for which the document promises anything.
 */
final class Run {
    static final int NONE = UnitsWrong.NONE;
    static final int ABSENT = Integer.MIN_VALUE;

    private static final int MOST_CALLS = 512;
    private static final Set<String> CHANGING = Set.of("paper", "fund", "holder", "holiday", "tell", "trade", "deal", "feed",
        "end",
        "take", "go", "gone", "found", "audit", "suspect", "forget");
    private static final Set<String> REFUSING_BY_ABSENT = Set.of("known", "rule", "error", "claim", "house", "cash", "dealt",
        "beside",
        "balance", "payment");
    /** Calls by which a change that can't be asked for yet comes to light. */
    private static final List<String> LATER = List.of("deal(0, 0, 3, 9)", "deal(1, 0, 3, 13)", "deal(15, 0, 3, 1)", "take()",
        "go(1)",
        "tell(0, 0, 0, 50)", "suspect(2, 0, 0, 1)", "go(9)");

    private static final Map<String, Method> FACE = new HashMap<>();
    private static final Map<String, Object[]> ARGUMENTS = new HashMap<>();
    private static int asked = 0;
    private static int wrong = 0;

    static {
        for (Method m : UnitsWrong.class.getDeclaredMethods()) FACE.put(m.getName(), m);
    }

    private final String about;
    private final List<String> done = new ArrayList<>();
    private final Map<List<String>, Map<String, Long>> without = new HashMap<>();
    private UnitsWrong object = new UnitsWrong();
    private int calls = 0;

    Run(String about) {
        this.about = about;
    }

    /**
     * A FUND of that many UNITS, bought by HOLDER 0 at 100.00 on DAY 0; NOW is 1, and there are 4 HOLDERS. With 100 UNITS
     * each PENNY more on DAY 1 is one hundredth more of the price.
     */
    static Run ofUnits(String about, int units) {
        Run x = new Run(about).after("fund(0)", "holder(0)", "holder(0)", "holder(0)", "holder(0)");
        return x.is(call("deal", 0, 0, units, 9), 0).is("go(1)", 1).is("cash(0, 0)", 100L * units);
    }

    static String call(String name, int... arguments) {
        String list = Arrays.toString(arguments);
        return name + "(" + list.substring(1, list.length() - 1) + ")";
    }

    /** The same run so far, on an object of its own. */
    Run fork() {
        Run other = new Run(about);
        other.done.addAll(done);
        other.renew();
        return other;
    }

    /** Tells how it went, and ends with exit code 1 if an answer was not the one that is due. */
    static void close() {
        System.out.println(asked + " answers, " + wrong + " of them not as due");
        if (wrong != 0) System.exit(1);
    }

    Run is(String call, long want) {
        check(call, answer(call), want);
        return this;
    }

    Run yes(String call) {
        return is(call, 1);
    }

    Run no(String call) {
        return is(call, 0);
    }

    /** Calls that are taken, whatever they answer. */
    Run after(String... all) {
        for (String call : all) {
            long got = answer(call);
            asked++;
            if (got == refusal(call)) tell(call + " was refused");
        }
        return this;
    }

    /** Questions that have the same answer. */
    Run all(long want, String... questions) {
        for (String call : questions) is(call, want);
        return this;
    }

    /** Calls that are refused, each of which changes nothing. */
    Run refuses(String... all) {
        for (String call : all) {
            check(call, answer(call), refusal(call));
            same(call, List.of());
            if (CHANGING.contains(nameOf(call))) same(call, LATER);
        }
        return this;
    }

    /** Questions change nothing: each is answered alike as the first one of all, forward and backward. */
    Run answersInAnyOrder() {
        Map<String, Long> forward = answers(done, List.of());
        UnitsWrong x = null;
        int left = 0;
        List<String> questions = questions(replay(done));
        for (int i = questions.size() - 1; i >= 0; i--) {
            if (left-- == 0) {
                x = replay(done);
                left = MOST_CALLS - done.size() - 1;
            }
            check(questions.get(i) + ", asked backward,", answer(x, questions.get(i)), forward.get(questions.get(i)));
            check(questions.get(i) + ", asked alone,", answer(replay(done), questions.get(i)), forward.get(questions.get(i)));
        }
        return this;
    }

    /** Another run, call by call beside this one: neither object knows of the other. */
    Run besides(Run other) {
        UnitsWrong x = new UnitsWrong();
        UnitsWrong y = new UnitsWrong();
        for (int i = 0; i < Math.max(done.size(), other.done.size()); i++) {
            if (i < done.size()) answer(x, done.get(i));
            if (i < other.done.size()) answer(y, other.done.get(i));
        }
        for (String question : questions(replay(done)).subList(0, 300)) {
            check(question + ", beside another,", answer(x, question), answer(replay(done), question));
        }
        for (String question : questions(replay(other.done)).subList(0, 300)) {
            check(question + ", beside another,", answer(y, question), answer(replay(other.done), question));
        }
        return this;
    }

    /** Puts a TEXT in place of what is there. */
    Run text(String text) {
        is("end(0)", 1);
        byte[] bytes = text.getBytes(StandardCharsets.ISO_8859_1);
        for (int i = 0; i < bytes.length; i += 20) {
            int[] v = new int[5];
            for (int j = 0; j < 20; j++) v[j / 4] = v[j / 4] << 8 | (i + j < bytes.length ? bytes[i + j] & 255 : 32);
            is(call("feed", v), i + 20);
        }
        return is("end(" + bytes.length + ")", 1);
    }

    Run law(String text) {
        text(text);
        return after("take()");
    }

    /** A rule of THE LAW of a DAY for FUNDS 0 and on. */
    Run rules(int day, int what, long... wants) {
        for (int fund = 0; fund < wants.length; fund++) is(call("rule", fund, day, what), wants[fund]);
        return this;
    }

    /** LOST, GAINED, CLAIM and how it is. */
    Run claims(int who, int fund, int k, long... wants) {
        for (int what = 0; what < wants.length; what++) is(call("claim", who, fund, k, what), wants[what]);
        return this;
    }

    /** BALANCES of PARTIES: a PARTY, its BALANCE, and so on. */
    Run balances(int fund, long... partiesAndSums) {
        for (int i = 0; i + 1 < partiesAndSums.length; i += 2) {
            is(call("balance", fund, (int) partiesAndSums[i]), partiesAndSums[i + 1]);
        }
        return this;
    }

    /** All PAYMENTS: who pays, who gets, how much, and so on. */
    Run pays(int fund, long... all) {
        is("payments(" + fund + ")", all.length / 3);
        for (int i = 0; i < all.length; i++) is(call("payment", fund, i / 3, i % 3), all[i]);
        return is(call("payment", fund, all.length / 3, 0), ABSENT);
    }

    /** A number that hangs on the run alone. */
    int many(String question) {
        return (int) answer(question);
    }

    /** Days end till NOW is that one. */
    Run goTo(int now) {
        int at = (int) answer("count(0)");
        for (int i = 0; i < 7 && at < now; i++) {
            int step = Math.min(40, now - at);
            at += step;
            is(call("go", step), at);
        }
        return is("count(0)", now);
    }

    private void renew() {
        object = replay(done);
        calls = done.size();
    }

    private static UnitsWrong replay(List<String> run) {
        UnitsWrong x = new UnitsWrong();
        for (String call : run) answer(x, call);
        return x;
    }

    private long answer(String call) {
        if (calls >= MOST_CALLS) renew();
        calls++;
        long got = answer(object, call);
        if (CHANGING.contains(nameOf(call)) && got != refusal(call)) {
            done.add(call);
            without.clear();
        }
        return got;
    }

    private void check(String call, long got, long want) {
        asked++;
        if (got != want) tell(call + " answered " + got + ", due is " + want);
    }

    private void tell(String what) {
        wrong++;
        System.out.println(about + ": " + what + "; behind " + (done.size() > 40 ? done.size() + " calls" : done.toString()));
    }

    private void same(String refused, List<String> later) {
        List<String> with = new ArrayList<>(done);
        with.add(refused);
        Map<String, Long> got = answers(with, later);
        Map<String, Long> want = without.computeIfAbsent(later, l -> answers(done, l));
        asked++;
        for (String question : want.keySet()) {
            if (!want.get(question).equals(got.get(question))) {
                tell(refused + " was refused, but " + question + " answered " + got.get(question) + ", without it " + want.get(question));
                return;
            }
        }
    }

    /** All that can be asked for behind a run and some calls more. */
    private static Map<String, Long> answers(List<String> run, List<String> later) {
        Map<String, Long> all = new HashMap<>();
        List<String> questions = null;
        for (int next = 0; questions == null || next < questions.size();) {
            UnitsWrong x = replay(run);
            for (String call : later) all.put("later " + call, answer(x, call));
            int left = MOST_CALLS - run.size() - later.size() - 5;
            if (questions == null) questions = questions(x);
            if (left < 1) throw new IllegalStateException("a run of " + run.size() + " calls leaves nothing to ask");
            for (int end = Math.min(questions.size(), next + left); next < end; next++) {
                all.put(questions.get(next), answer(x, questions.get(next)));
            }
        }
        return all;
    }

    private static List<String> questions(UnitsWrong x) {
        List<String> all = new ArrayList<>(List.of("fault()", "explain()", "rivals()"));
        int now = x.count(0);
        int funds = x.count(1);
        int holders = x.count(2);
        int deals = x.count(5);
        int k = Math.min(259, now);
        List<Integer> whos = new ArrayList<>();
        for (int who = 0; who < holders; who++) whos.add(who);
        for (int fund = 0; fund < funds; fund++) whos.add(20 + fund);
        for (int what = 0; what <= 10; what++) ask(all, "count", what);
        for (int day : days(0, 1, 2, 5, 7, now, now + 1, now + 2, now + 3, now + 7, 258, 259)) ask(all, "open", day);
        for (int day : days(0, 1, now - 1, now, 259)) {
            for (int seen : days(0, now, 259)) askKnown(all, day, seen);
        }
        for (int fund = 0; fund < funds; fund++) {
            askFund(all, fund, now, k);
            for (int who : whos) {
                ask(all, "units", who, fund);
                for (int what = 0; what < 4; what++) ask(all, "claim", who, fund, k, what);
                ask(all, "claim", who, fund, Math.max(0, k - 1), 3);
                ask(all, "balance", fund, who);
            }
        }
        for (int deal = 0; deal < deals; deal++) {
            if (deal >= 12 && deal < deals - 4) continue;
            for (int what = 0; what < 8; what++) ask(all, "dealt", deal, what);
        }
        return all;
    }

    private static void askKnown(List<String> all, int day, int k) {
        for (int number = 0; number < 8; number++) {
            ask(all, "known", 0, number, day, k);
            ask(all, "known", 2, number, day, k);
            ask(all, "known", 3, number, day, k);
        }
        for (int number = 1; number < 3; number++) ask(all, "known", 1, number, day, k);
        ask(all, "stale", 0, 0, day, k);
        ask(all, "stale", 1, 1, day, k);
    }

    private static void askFund(List<String> all, int fund, int now, int k) {
        for (String name : List.of("errors", "due", "payments")) ask(all, name, fund);
        ask(all, "count", 20 + fund);
        ask(all, "balance", fund, 40);
        ask(all, "balance", fund, 41);
        for (int what = 0; what < 2; what++) ask(all, "cash", fund, what);
        for (int seen : days(0, k - 1, k)) ask(all, "house", fund, seen);
        for (int beyond : List.of(0, 100)) {
            ask(all, "beside", fund, beyond);
            ask(all, "alarm", fund, beyond);
        }
        for (int day : days(0, now, 259)) {
            for (int what = 0; what < 12; what++) ask(all, "rule", fund, day, what);
        }
        for (int day : days(0, 1, 2, 3, 4, now - 2, now - 1)) {
            ask(all, "booked", fund, day);
            ask(all, "fee", fund, day, 0);
            ask(all, "fee", fund, day, 1);
            ask(all, "right", fund, day, day);
            ask(all, "right", fund, day, k);
            ask(all, "error", fund, day, k);
        }
        for (int payment = 0; payment < 4; payment++) {
            for (int what = 0; what < 3; what++) ask(all, "payment", fund, payment, what);
        }
    }

    private static Set<Integer> days(int... wanted) {
        Set<Integer> all = new LinkedHashSet<>();
        for (int day : wanted) if (day >= 0 && day < 260) all.add(day);
        return all;
    }

    private static void ask(List<String> all, String name, int... arguments) {
        all.add(call(name, arguments));
    }

    private static String nameOf(String call) {
        return call.substring(0, call.indexOf('('));
    }

    private static long refusal(String call) {
        String name = nameOf(call);
        if (FACE.get(name).getReturnType() == boolean.class) return 0;
        return REFUSING_BY_ABSENT.contains(name) ? ABSENT : NONE;
    }

    private static Object[] argumentsOf(String call) {
        String inside = call.substring(call.indexOf('(') + 1, call.length() - 1);
        if (inside.isEmpty()) return new Object[0];
        return Arrays.stream(inside.split(",")).map(s -> (Object) Integer.valueOf(s.trim())).toArray();
    }

    private static long answer(UnitsWrong x, String call) {
        try {
            Object got = FACE.get(nameOf(call)).invoke(x, ARGUMENTS.computeIfAbsent(call, Run::argumentsOf));
            return got instanceof Boolean yes ? (yes ? 1 : 0) : (Integer) got;
        } catch (IllegalAccessException | InvocationTargetException e) {
            throw new IllegalStateException(call, e);
        }
    }
}
