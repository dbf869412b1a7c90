import java.lang.management.ManagementFactory;
import java.lang.reflect.Array;
import java.lang.reflect.Modifier;
import java.util.ArrayDeque;
import java.util.Collections;
import java.util.IdentityHashMap;
import java.util.Random;
import java.util.Set;

/** That an object is small, that calls make nothing, and that no arguments in any state make a call throw. */
public final class RoomTest {
    private static final int[] ODD = {Integer.MIN_VALUE, Integer.MIN_VALUE + 1, -2000000001, -10001, -1001, -100, -12, -11, -2, -1, 0, 1, 2, 3, 4,
        5, 6, 7, 8, 9, 10, 11, 12, 13, 15, 16, 19, 20, 21, 22, 23, 24, 39, 40, 41, 42, 59, 60, 61, 99, 100, 258, 259, 260, 261, 399, 400, 600, 601,
        1000, 1001, 9999, 10000, 10001, 100000000, 100000001, 2000000001, Integer.MAX_VALUE - 1, Integer.MAX_VALUE};
    private static final int KINDS = 40;

    public static void main(String[] args) throws Exception {
        boolean good = isSmall() & makesNothing() & neverThrows();
        if (!good) System.exit(1);
        System.out.println("objects are small, calls make nothing and never throw");
    }

    private static boolean isSmall() throws Exception {
        Set<Object> seen = Collections.newSetFromMap(new IdentityHashMap<>());
        ArrayDeque<Object> left = new ArrayDeque<>();
        left.add(new UnitsWrong());
        long elements = 0;
        while (!left.isEmpty()) {
            Object o = left.remove();
            if (!seen.add(o)) continue;
            if (o.getClass().isArray()) {
                elements += Array.getLength(o);
                continue;
            }
            for (var f : o.getClass().getDeclaredFields()) {
                if (Modifier.isStatic(f.getModifiers())) continue;
                f.setAccessible(true);
                elements++;
                if (!f.getType().isPrimitive()) left.add(f.get(o));
            }
        }
        boolean good = elements < 14000 && seen.size() < 100;
        if (!good) System.out.println("an object has " + elements + " fields and elements in " + seen.size() + " objects");
        return good;
    }

    private static boolean makesNothing() {
        var threads = (com.sun.management.ThreadMXBean) ManagementFactory.getThreadMXBean();
        long id = Thread.currentThread().getId();
        long least = Long.MAX_VALUE;
        for (int round = 0; round < 5; round++) {
            UnitsWrong x = new UnitsWrong();
            Random random = new Random(7);
            prepare(x);
            threads.getThreadAllocatedBytes(id);
            long before = threads.getThreadAllocatedBytes(id);
            for (int i = 0; i < 512; i++) call(x, i % KINDS, random);
            x.explain();
            x.payments(0);
            least = Math.min(least, threads.getThreadAllocatedBytes(id) - before);
        }
        boolean good = least < 1024;
        if (!good) System.out.println("512 calls made " + least + " bytes");
        return good;
    }

    private static boolean neverThrows() {
        for (int seed = 0; seed < 2000; seed++) {
            Random random = new Random(seed);
            UnitsWrong x = new UnitsWrong();
            if (seed % 3 != 0) prepare(x);
            for (int i = 0; i < 1000; i++) {
                int kind = random.nextInt(KINDS);
                try {
                    call(x, kind, random);
                } catch (Throwable t) {
                    System.out.println("seed " + seed + ", call " + i + " of kind " + kind + " threw " + t);
                    return false;
                }
            }
        }
        return true;
    }

    private static void prepare(UnitsWrong x) {
        for (int i = 0; i < 4; i++) x.fund(100000);
        for (int i = 0; i < 16; i++) x.holder(0);
        x.tell(0, 0, 0, 100);
        x.trade(0, 0, 0, 100, -10000);
        for (int i = 0; i < 16; i++) x.deal(i, i % 4, 10 + i, 9);
        x.deal(23, 2, 10, 9);
        x.deal(21, 0, 10, 9);
        x.go(3);
        x.tell(0, 0, 1, 80);
        x.audit(0, 1, 5);
        for (int i = 0; i < 7; i++) x.suspect(0, 0, 1, 90);
    }

    private static int odd(Random random) {
        return random.nextInt(3) == 0 ? ODD[random.nextInt(ODD.length)] : random.nextInt(25);
    }

    private static void call(UnitsWrong x, int kind, Random r) {
        int a = odd(r);
        int b = odd(r);
        int c = odd(r);
        int d = odd(r);
        int e = odd(r);
        switch (kind) {
            case 0 -> x.paper(a, b);
            case 1 -> x.fund(a);
            case 2 -> x.holder(a);
            case 3 -> x.holiday(a);
            case 4 -> x.open(a);
            case 5 -> x.tell(a, b, c, d);
            case 6 -> x.known(a, b, c, d);
            case 7 -> x.stale(a, b, c, d);
            case 8 -> x.trade(a, b, c, d, e);
            case 9 -> x.deal(a, b, c, d);
            case 10 -> x.feed(r.nextInt(), 0x66656520, 0x6761696e, r.nextInt(), 0x73206261);
            case 11 -> x.end(a);
            case 12 -> x.fault();
            case 13 -> x.take();
            case 14 -> x.rule(a, b, c);
            case 15 -> x.go(r.nextInt(4) == 0 ? a : 1);
            case 16 -> x.booked(a, b);
            case 17 -> x.right(a, b, c);
            case 18 -> x.fee(a, b, c);
            case 19 -> x.error(a, b, c);
            case 20 -> x.errors(a);
            case 21 -> x.units(a, b);
            case 22 -> x.claim(a, b, c, d);
            case 23 -> x.house(a, b);
            case 24 -> x.cash(a, b);
            case 25 -> x.dealt(a, b);
            case 26 -> x.gone(a);
            case 27 -> x.found(a);
            case 28 -> x.due(a);
            case 29 -> x.audit(a, b, c);
            case 30 -> x.suspect(a, b, c, d);
            case 31 -> x.forget();
            case 32 -> x.explain();
            case 33 -> x.rivals();
            case 34 -> x.alarm(a, b);
            case 35 -> x.beside(a, b);
            case 36 -> x.balance(a, b);
            case 37 -> x.payments(a);
            case 38 -> x.payment(a, b, c);
            default -> x.count(a);
        }
    }
}
