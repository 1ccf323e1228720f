import java.lang.management.ManagementFactory;
import java.lang.reflect.Field;
import java.lang.reflect.Modifier;
import java.util.ArrayDeque;
import java.util.Collections;
import java.util.Deque;
import java.util.IdentityHashMap;
import java.util.Set;

/** All calls of a run live in one room: how much an object holds, and that no call but a refused one makes anything. */
public final class RoomTest {
    private static final int TIMES = 50;
    private static final Check CHECK = new Check();
    private static final com.sun.management.ThreadMXBean THREADS =
        (com.sun.management.ThreadMXBean) ManagementFactory.getThreadMXBean();
    private static final String FULL_PARK =
        "walk 20 9;".repeat(8) + "child 1 3;".repeat(8) + "hoop 9;".repeat(8) + "long 9;fine 20;";
    private static final String LONG_LAW = "length*6/pace" + "+least[tired,bribe%7]*(age-weight)".repeat(4);
    private static final String GIVEN = "give 0 1;give 1 2;give 2 3;give 3 4;give 4 5;give 5 6;give 6 7;give 7 0;bribe 1 9;";

    public static void main(String[] args) throws ReflectiveOperationException {
        held();
        askingMakesNothing();
        doingMakesNothing();
        CHECK.end();
    }

    /** 512 calls may all be on one object; its rows are made once and stay the same ones. */
    private static void held() throws ReflectiveOperationException {
        CHECK.promise(1, "room of an object");
        HoopHours x = new HoopHours();
        int[] fresh = held(x);
        CHECK.is("more than 600 objects and arrays", 0, fresh[0] > 600 ? 1 : 0);
        CHECK.is("more than 8000 fields and elements", 0, fresh[1] > 8000 ? 1 : 0);
        fill(x);
        for (int i = 0; i < 3; i++) {
            Check.work(x, "again 60 [roll;];");
            x.image();
        }
        askAll(x);
        CHECK.is("objects and arrays after calls", fresh[0], held(x)[0]);
        CHECK.is("fields and elements after calls", fresh[1], held(x)[1]);
    }

    /** Objects and arrays that can be come to, and their fields and elements. */
    private static int[] held(Object from) throws ReflectiveOperationException {
        Set<Object> seen = Collections.newSetFromMap(new IdentityHashMap<>());
        Deque<Object> open = new ArrayDeque<>();
        seen.add(from);
        open.add(from);
        int parts = 0;
        while (!open.isEmpty()) {
            Object one = open.remove();
            if (one instanceof int[] row) {
                parts += row.length;
            } else if (one instanceof Object[] row) {
                parts += row.length;
                for (Object part : row) {
                    come(part, seen, open);
                }
            } else {
                parts += heldByFields(one, seen, open);
            }
        }
        return new int[] {seen.size(), parts};
    }

    private static int heldByFields(Object one, Set<Object> seen, Deque<Object> open) throws ReflectiveOperationException {
        int fields = 0;
        for (Field field : one.getClass().getDeclaredFields()) {
            if (!Modifier.isStatic(field.getModifiers())) {
                fields++;
                field.setAccessible(true);
                if (!field.getType().isPrimitive()) {
                    come(field.get(one), seen, open);
                }
            }
        }
        return fields;
    }

    private static void come(Object to, Set<Object> seen, Deque<Object> open) {
        if (to != null && seen.add(to)) {
            open.add(to);
        }
    }

    private static void fill(HoopHours x) {
        Check.park(x, FULL_PARK);
        Check.law(x, LONG_LAW);
        Check.work(x, GIVEN);
        Check.songs(x, "1 99;");
    }

    private static long askAll(HoopHours x) {
        return x.told(9) + x.walk(7, 1) + x.child(7, 5) + x.hoop(7, 2) + x.minutes(7, 7, 7) + x.would(20, 1, 3, 9, 99, 1, 99)
            + x.lasts(7, 7) + x.ahead(200, 0) + x.due(7) + x.hour(999) + x.late() + x.match(255, 999) + x.matched(255, 999, 7)
            + x.fits(0) + x.listen(0) + x.safe(255, 1) + x.mean(99, 1) + x.stands(15, 12, 1) + x.cover(255) + x.watch(4, 1)
            + x.toffee(7, 9, 0) + x.share(7, 255, 99) + x.quickest(7, 1) + x.debtor(1) + x.idle() + x.bowls(7, 200) + x.load(7)
            + x.slowest(1) + x.days(5, 200, 8, 0) + x.span(5, 20, 200, 8, 1) + x.fault() + x.status(0) + x.count(2);
    }

    private static void askingMakesNothing() {
        CHECK.promise(1, "room of what is asked");
        HoopHours x = new HoopHours();
        fill(x);
        CHECK.is("bytes made by all that is asked", 0, made(() -> askAll(x)));
    }

    private static void doingMakesNothing() {
        CHECK.promise(1, "room of what is done");
        HoopHours x = new HoopHours();
        int[] park = numbers(FULL_PARK);
        int[] law = numbers(LONG_LAW);
        int[] work = numbers(GIVEN + "again 60 [roll;];");
        int[] wrong = numbers("again 2 [roll;roll;;");
        int[] songs = numbers("1 99;2 7;");
        CHECK.is("bytes made by texts, undoing and images", 0, made(() -> {
            feed(x, park);
            int sum = x.park(FULL_PARK.length());
            feed(x, law);
            sum += x.law(LONG_LAW.length());
            feed(x, work);
            sum += x.work(GIVEN.length() + 17);
            feed(x, wrong);
            sum += x.work(20);
            feed(x, songs);
            sum += x.songs(9);
            return sum + x.image() + x.undo() + x.restore() + x.undo();
        }));
    }

    private static int[] numbers(String text) {
        int[] numbers = new int[(text.length() + 19) / 20 * 5];
        for (int i = 0; i < text.length(); i++) {
            numbers[i / 4] |= text.charAt(i) << 24 - i % 4 * 8;
        }
        return numbers;
    }

    private static void feed(HoopHours x, int[] numbers) {
        for (int i = 0; i < numbers.length; i += 5) {
            x.feed(numbers[i], numbers[i + 1], numbers[i + 2], numbers[i + 3], numbers[i + 4]);
        }
    }

    /** The first calls make classes known, which takes room of the machine's own. */
    private static long made(Check.Call call) {
        if (!THREADS.isThreadAllocatedMemorySupported() || !THREADS.isThreadAllocatedMemoryEnabled()) {
            return 0;
        }
        long sum = call.answer();
        THREADS.getCurrentThreadAllocatedBytes();
        long before = THREADS.getCurrentThreadAllocatedBytes();
        for (int i = 0; i < TIMES; i++) {
            sum += call.answer();
        }
        long after = THREADS.getCurrentThreadAllocatedBytes();
        CHECK.is("answers", 1, sum != Long.MIN_VALUE ? 1 : 0);
        return after - before;
    }
}
