import java.lang.management.ManagementFactory;
import java.lang.reflect.Array;
import java.lang.reflect.Field;
import java.lang.reflect.Modifier;
import java.util.ArrayDeque;
import java.util.Deque;
import java.util.IdentityHashMap;
import java.util.Map;

/** A full object stays small, its dear calls make nothing, and no argument makes a call throw. */
public final class RoomTest {
    private static final int MOST_OBJECTS = 300;
    private static final int MOST_ELEMENTS = 12000;
    private static int wrong = 0;

    private static void must(boolean held, String what) {
        if (!held) {
            wrong++;
            System.out.println(what);
        }
    }

    /** Everything that the document lets an object keep. */
    private static ReelBack full() {
        ReelBack x = new ReelBack();
        for (int i = 0; i < 20; i++) {
            x.house(i % 6);
            x.film(i, 9);
            x.coin(0, i, 99999);
            for (int b = 0; b < 160; b += 4) {
                x.feed(4, '1' | '+' << 8 | 'l' << 16 | '+' << 24);
            }
            x.feed(1, 0);
            if (x.text(i % 5, 0) < 0) {
                for (int b = 0; b < 156; b += 4) {
                    x.feed(4, '1' | '+' << 8 | 'l' << 16 | '+' << 24);
                }
                x.feed(1, '1');
                x.text(i % 5, 0);
            }
        }
        for (int i = 0; i < 60; i++) {
            x.person(i % 6);
            x.ask(i / 6, i % 6);
            x.loan(i, i % 20, 7, i % 3);
        }
        for (int i = 0; i < 9; i++) {
            x.days(360);
        }
        for (int i = 0; i < 150; i++) {
            x.set(0, i % 20);
            x.set(1, i % 9);
            x.set(2, i % 3);
            x.set(3, 20 * i);
            x.set(4, i % 20);
            x.set(5, 1 + i % 40);
            x.cost(1 + i % 6, 99999);
        }
        for (int i = 0; i < 200; i++) {
            x.stay(i % 20, i % 6, i, 3599);
            x.like(i % 20, i % 6, i, 5);
            x.point(i % 20, i % 6, 20);
        }
        for (int i = 0; i < 9; i++) {
            x.move(9999, 63);
        }
        must(x.count(7) == 20 && x.count(4) == 150 && x.count(9) == 60 && x.count(5) == 200, "not all is full");
        return x;
    }

    private static void sizes(ReelBack x) throws IllegalAccessException {
        Map<Object, Boolean> seen = new IdentityHashMap<>();
        Deque<Object> open = new ArrayDeque<>();
        open.add(x);
        seen.put(x, true);
        long elements = 0;
        while (!open.isEmpty()) {
            Object at = open.remove();
            if (at.getClass().isArray()) {
                elements += Array.getLength(at);
                for (int i = 0; !at.getClass().getComponentType().isPrimitive() && i < Array.getLength(at); i++) {
                    if (Array.get(at, i) != null && seen.put(Array.get(at, i), true) == null) {
                        open.add(Array.get(at, i));
                    }
                }
                continue;
            }
            for (Field field : at.getClass().getDeclaredFields()) {
                if (Modifier.isStatic(field.getModifiers())) {
                    continue;
                }
                elements++;
                field.setAccessible(true);
                Object value = field.getType().isPrimitive() ? null : field.get(at);
                if (value != null && seen.put(value, true) == null) {
                    open.add(value);
                }
            }
        }
        must(seen.size() <= MOST_OBJECTS, seen.size() + " objects are kept");
        must(elements <= MOST_ELEMENTS, elements + " fields and elements are kept");
        System.out.println(seen.size() + " objects, " + elements + " fields and elements in a full one");
    }

    private static int dearCalls(ReelBack x) {
        int sum = 0;
        for (int i = 0; i < 20; i++) {
            sum += x.given(i, -1) + x.foretold(i) + x.tryText(i) + x.gain(i % 6, 5, 100, 50, 1) + x.twice(0);
            sum += x.base(i, i % 6, -1, 3240, 1) + x.counted(i, 3240, 3) + x.span(i, 3240, 2) + x.bound(i);
            sum += x.act(i, i % 3, i) + x.lives(i, i % 6, 3000, 3240) + x.split(i, 7, 50) + x.draw(i);
            sum += x.inForce(i, 9, 9) + x.law(0, i, 9, 9, 1) + x.count(12) + x.repaid(i, 1) + x.audit(i, 0);
        }
        return sum;
    }

    private static void makesNothing(ReelBack x) {
        var threads = (com.sun.management.ThreadMXBean) ManagementFactory.getThreadMXBean();
        dearCalls(x);
        threads.getCurrentThreadAllocatedBytes();
        long before = threads.getCurrentThreadAllocatedBytes();
        dearCalls(x);
        long made = threads.getCurrentThreadAllocatedBytes() - before;
        must(made < 4000, "360 dear calls made " + made + " bytes");
    }

    private static final int[] ODD = {Integer.MIN_VALUE, -2147483647, -100, -2, -1, 0, 1, 2, 3, 5, 6, 7, 9, 10, 19, 20,
        59, 60, 63, 64, 99, 100, 149, 150, 160, 199, 200, 359, 360, 361, 3599, 3600, 99999, 100000, 100100, 99999999,
        100000000, 1 << 30, Integer.MAX_VALUE};

    private static void callAll(ReelBack x, int a, int b, int c, int d, int e) {
        x.coin(a, b, c); x.coinOn(a, b); x.house(a); x.relate(a, b); x.film(a, b); x.sell(a, b); x.person(a);
        x.stay(a, b, c, d); x.lives(a, b, c, d); x.point(a, b, c); x.prove(a); x.points(a, b, c); x.set(a, b);
        x.cost(a, b); x.of(a, b); x.like(a, b, c, d); x.span(a, b, c); x.counted(a, b, c); x.base(a, b, c, d, e);
        x.feed(a, b); x.text(a, b); x.inForce(a, b, c); x.law(a, b, c, d, e); x.cap(a, b, c); x.ask(a, b);
        x.given(a, b); x.foretold(a); x.loan(a, b, c, d); x.advance(a); x.settle(a); x.repaid(a, b); x.got(a);
        x.move(a, b); x.split(a, b, c); x.moved(a); x.without(); x.gain(a, b, c, d, e); x.audit(a, b); x.lots(a);
        x.draw(a); x.bound(a); x.tryText(a); x.twice(a); x.act(a, b, c); x.trace(a); x.taken(a, b); x.count(a);
        x.days(a);
    }

    /** Each odd number in each place, on an empty and on a full object; a call that throws ends the test. */
    private static void oddNumbers(ReelBack x) {
        int n = ODD.length;
        for (int i = 0; i < n * n * n; i++) {
            int a = ODD[i % n];
            int b = ODD[i / n % n];
            int c = ODD[i / n / n];
            callAll(x, a, b, c, ODD[(i * 7 + 3) % n], ODD[(i * 11 + 5) % n]);
        }
    }

    public static void main(String[] args) throws IllegalAccessException {
        ReelBack x = full();
        sizes(x);
        makesNothing(x);
        oddNumbers(new ReelBack());
        oddNumbers(full());
        System.out.println(wrong == 0 ? "the room is kept" : wrong + " breaches");
        if (wrong != 0) {
            System.exit(1);
        }
    }
}
