import java.lang.reflect.Constructor;
import java.lang.reflect.Field;
import java.lang.reflect.Method;
import java.lang.reflect.Modifier;
import java.util.ArrayList;
import java.util.Arrays;
import java.util.Collections;
import java.util.Comparator;
import java.util.List;

/** The public face: the document's members and no others, and no machine's exception for any numbers. */
public final class FaceTest {
    private static final String[] FACE = {
        "ahead(II)int", "bowls(II)int", "child(II)int", "count(I)int", "cover(I)int", "days(IIII)int", "debtor(I)int",
        "due(I)int", "fault()int", "feed(IIIII)int", "fits(I)int", "hoop(II)int", "hour(I)int", "idle()int",
        "image()int", "lasts(II)int", "late()int", "law(I)int", "listen(I)int", "load(I)int", "match(II)int",
        "matched(III)int", "mean(II)int", "minutes(III)int", "park(I)int", "quickest(II)int", "restore()int",
        "safe(II)long", "share(III)int", "slowest(I)int", "songs(I)int", "span(IIIII)int", "stands(III)long",
        "status(I)int", "toffee(III)int", "told(I)int", "undo()int", "walk(II)int", "watch(II)int", "work(I)int",
        "would(IIIIIII)int",
    };
    private static final Check CHECK = new Check();
    private static final Method[] METHODS = Arrays.stream(HoopHours.class.getDeclaredMethods())
        .filter(method -> Modifier.isPublic(method.getModifiers()))
        .sorted(Comparator.comparing(Method::getName))
        .toArray(Method[]::new);
    private static int seed = 1;

    public static void main(String[] args) throws ReflectiveOperationException {
        members();
        example();
        anyNumbers();
        CHECK.end();
    }

    private static void members() {
        CHECK.promise(1, "the public face");
        List<String> found = new ArrayList<>();
        for (Method method : HoopHours.class.getDeclaredMethods()) {
            if (Modifier.isPublic(method.getModifiers())) {
                found.add(method.getName() + "(" + "I".repeat(method.getParameterCount()) + ")" + method.getReturnType());
            } else {
                CHECK.is(method.getName() + " is private", 1, Modifier.isPrivate(method.getModifiers()) ? 1 : 0);
            }
        }
        Collections.sort(found);
        CHECK.is("public methods are as told", 1, found.equals(List.of(FACE)) ? 1 : 0);
        for (Field field : HoopHours.class.getDeclaredFields()) {
            boolean none = field.getName().equals("NONE") && Modifier.isPublic(field.getModifiers());
            CHECK.is(field.getName() + " is private, or NONE", 1, none || Modifier.isPrivate(field.getModifiers()) ? 1 : 0);
        }
        for (Constructor<?> made : HoopHours.class.getDeclaredConstructors()) {
            CHECK.is("public constructor", 1, Modifier.isPublic(made.getModifiers()) ? 1 : 0);
        }
    }

    /** As README.md tells it. */
    private static void example() {
        CHECK.promise(2, "the example of README.md");
        HoopHours x = new HoopHours();
        CHECK.is("feed", 20, x.feed(0x77616c6b, 0x20322034, 0x3b636869, 0x6c642033, 0x20373b68));
        CHECK.is("feed", 40, x.feed(0x6f6f7020, 0x323b0000, 0, 0, 0));
        CHECK.is("park(26)", 1, x.park(26));
        CHECK.is("lasts(0, 0)", 6, x.lasts(0, 0));
    }

    /** Calls with numbers near and far; only what the document names may be thrown. */
    private static void anyNumbers() throws ReflectiveOperationException {
        CHECK.promise(41, "only what is told is thrown, and counted");
        String[] parks = {"", "walk 2 4;walk 5 0;walk 3 16;child 3 7;child 6 10;hoop 2;hoop 5;long 20;",
            "walk 9 9;".repeat(8) + "child 4 4;".repeat(8) + "hoop 3;".repeat(8), "walk 1 1;hoop 1;", "child 1 3;hoop 2;"};
        for (String park : parks) {
            for (int run = 0; run < 40; run++) {
                HoopHours x = Check.withPark(park);
                Check.law(x, "length * 6 / (pace - 3) + weight % (age - 4) * tired - 9 * bribe");
                Check.work(x, "give 0 0;give 1 1;give 2 0;give 3 3;give 4 1;give 5 0;give 6 1;give 7 7;bribe 0 3;");
                Check.work(x, "give 0 0;give 1 0;bribe 0 3;roll;roll;roll;");
                int[] refused = {0, 0};
                for (int i = 0; i < 400; i++) {
                    callOne(x, refused);
                }
                CHECK.is("status(0)", refused[0], x.status(0));
                CHECK.is("status(1)", refused[1], x.status(1));
            }
        }
    }

    private static void callOne(HoopHours x, int[] refused) throws ReflectiveOperationException {
        Method method = METHODS[draw(METHODS.length)];
        Object[] numbers = new Object[method.getParameterCount()];
        for (int i = 0; i < numbers.length; i++) {
            int[] some = {draw(3), draw(9), draw(20), draw(256), draw(1000), -1, Integer.MIN_VALUE, Integer.MAX_VALUE};
            numbers[i] = some[draw(10) < 8 ? draw(5) : draw(8)];
        }
        try {
            method.invoke(x, numbers);
        } catch (java.lang.reflect.InvocationTargetException e) {
            String thrown = e.getCause().getClass().getName();
            boolean noSuch = thrown.equals("java.util.NoSuchElementException");
            boolean told = noSuch || thrown.equals("java.lang.IllegalArgumentException");
            boolean declared = false;
            for (Class<?> type : method.getExceptionTypes()) {
                declared |= type.getName().equals(thrown);
            }
            CHECK.is(method.getName() + " threw " + thrown + ", which is told of it", 1, told && declared ? 1 : 0);
            refused[noSuch ? 0 : 1]++;
        }
    }

    private static int draw(int below) {
        seed = seed * 1103515245 + 12345;
        return (seed >>> 16 & 32767) % below;
    }
}
