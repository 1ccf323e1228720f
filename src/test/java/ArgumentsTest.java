import java.lang.reflect.InvocationTargetException;
import java.lang.reflect.Method;
import java.util.Arrays;
import java.util.List;

/** Promises 3 to 38 and 41: each number of each call at its bounds and on both sides of them, and which exception goes ahead. */
public final class ArgumentsTest {
    private static final Check CHECK = new Check();
    private static final int NO_SUCH = 0;
    private static final int ILLEGAL = 1;
    private static final String[] THROWN = {"java.util.NoSuchElementException", "java.lang.IllegalArgumentException"};

    /** A call: its promise and name, and of each number what is thrown outside of it, the least and the most. */
    private static final class Row {
        final int promise;
        final String name;
        final int[][] numbers;

        Row(int promise, String name, int[]... numbers) {
            this.promise = promise;
            this.name = name;
            this.numbers = numbers;
        }

        int[] plain() {
            return Arrays.stream(numbers).mapToInt(number -> number[1]).toArray();
        }
    }

    public static void main(String[] args) throws ReflectiveOperationException {
        someOfEach();
        eightOfEach();
        noneOfEach();
        oneOfEach();
        texts();
        neverRefused();
        manyRefused();
        CHECK.end();
    }

    private static int[] one(int many) {
        return new int[] {NO_SUCH, 0, many - 1};
    }

    private static int[] in(int least, int most) {
        return new int[] {ILLEGAL, least, most};
    }

    private static int[] bits(int many) {
        return new int[] {ILLEGAL, 0, (1 << many) - 1};
    }

    private static int[] any() {
        return new int[] {ILLEGAL, Integer.MIN_VALUE, Integer.MAX_VALUE};
    }

    private static List<Row> rows(int walks, int children, int hoops) {
        return List.of(
            new Row(9, "told", in(0, 12)),
            new Row(10, "walk", one(walks), in(0, 1)),
            new Row(11, "child", one(children), in(0, 5)),
            new Row(12, "hoop", one(hoops), in(0, 2)),
            new Row(13, "minutes", one(walks), one(children), one(hoops)),
            new Row(14, "would", in(1, 20), in(1, 9), in(3, 14), in(1, 9), in(0, 99), in(0, 1), in(0, 99)),
            new Row(15, "lasts", one(hoops), one(children)),
            new Row(16, "ahead", in(0, 200), in(0, 4)),
            new Row(17, "due", one(hoops)),
            new Row(18, "hour", in(0, 999)),
            new Row(20, "match", bits(hoops), in(0, 999)),
            new Row(21, "matched", bits(hoops), in(0, 999), one(hoops)),
            new Row(22, "fits", in(0, 1)),
            new Row(23, "listen", in(0, 1)),
            new Row(24, "safe", bits(walks), in(0, 1)),
            new Row(25, "mean", in(0, 99), in(0, 1)),
            new Row(26, "stands", in(0, 16), in(0, 12), in(0, 1)),
            new Row(27, "cover", bits(walks)),
            new Row(28, "watch", in(0, 8), in(0, 1)),
            new Row(29, "toffee", one(hoops), in(0, 9), in(0, 2)),
            new Row(30, "share", one(children), bits(children), in(0, 99)),
            new Row(31, "quickest", one(hoops), in(0, 1)),
            new Row(32, "debtor", in(0, 1)),
            new Row(34, "bowls", one(children), in(0, 200)),
            new Row(35, "load", one(children)),
            new Row(36, "slowest", in(0, 1)),
            new Row(37, "days", any(), in(1, 200), in(0, 16), in(0, 3)),
            new Row(38, "span", any(), in(1, 20), in(1, 200), in(0, 16), in(0, 2)));
    }

    private static void someOfEach() throws ReflectiveOperationException {
        String park = "walk 2 4;walk 5 0;walk 3 16;" + "child 3 7;child 6 10;child 1 4;child 2 3;"
            + "hoop 2;hoop 5;long 20;";
        String work = "give 0 1;give 1 3;rain;bribe 2 4;roll;roll;roll;roll;rest 0;";
        for (Row row : rows(3, 4, 2)) {
            bounds(row, park, work);
        }
    }

    private static void eightOfEach() throws ReflectiveOperationException {
        String park = "walk 2 4;".repeat(8) + "child 3 7;".repeat(8) + "hoop 2;".repeat(8);
        for (Row row : rows(8, 8, 8)) {
            bounds(row, park, "give 0 1;roll;");
        }
    }

    private static void oneOfEach() throws ReflectiveOperationException {
        for (Row row : rows(1, 1, 1)) {
            bounds(row, "walk 1 1;child 1 3;hoop 1;", "give 0 0;roll;");
        }
    }

    private static void noneOfEach() throws ReflectiveOperationException {
        for (Row row : rows(0, 0, 0)) {
            bounds(row, "", "rain;");
        }
    }

    /** One number at a time at its bounds and beyond, then two at a time beyond. */
    private static void bounds(Row row, String park, String work) throws ReflectiveOperationException {
        CHECK.promise(row.promise, row.name + " in \"" + park + "\"");
        HoopHours x = Check.with(park, "length * 3 - pace + tired * rain + bribe", work);
        Check.feed(x, "hoop 1;");
        List<Integer> before = Look.atAll(x);
        int[] refused = {0, 0};
        boolean none = Arrays.stream(row.numbers).anyMatch(number -> number[2] < number[1]);
        for (int i = 0; i < row.numbers.length; i++) {
            int[] number = row.numbers[i];
            for (int value : new int[] {number[1], number[2]}) {
                with(x, row, refused, none ? NO_SUCH : -1, i, value);
            }
            if (number[1] > Integer.MIN_VALUE) {
                int due = none ? NO_SUCH : number[0];
                for (int value : new int[] {number[1] - 1, number[2] + 1, Integer.MIN_VALUE, Integer.MAX_VALUE}) {
                    with(x, row, refused, due, i, value);
                }
            }
        }
        twoBeyond(x, row, refused, none);
        CHECK.same("behind calls that were refused", before, Look.atAll(x));
    }

    private static void twoBeyond(HoopHours x, Row row, int[] refused, boolean none) throws ReflectiveOperationException {
        for (int i = 0; i < row.numbers.length; i++) {
            for (int k = 0; k < row.numbers.length; k++) {
                boolean free = row.numbers[i][1] == Integer.MIN_VALUE || row.numbers[k][1] == Integer.MIN_VALUE;
                if (i == k || free) {
                    continue;
                }
                int[] numbers = row.plain();
                numbers[i] = row.numbers[i][2] + 1;
                numbers[k] = row.numbers[k][1] - 1;
                boolean noSuch = none || row.numbers[i][0] == NO_SUCH || row.numbers[k][0] == NO_SUCH;
                call(x, row, refused, noSuch ? NO_SUCH : ILLEGAL, numbers);
            }
        }
    }

    private static void with(HoopHours x, Row row, int[] refused, int due, int place, int value)
            throws ReflectiveOperationException {
        int[] numbers = row.plain();
        numbers[place] = value;
        call(x, row, refused, due, numbers);
    }

    /** Due is which exception, -1 for none; it is counted by its reason. */
    private static void call(HoopHours x, Row row, int[] refused, int due, int[] numbers) throws ReflectiveOperationException {
        String thrown = "none";
        try {
            method(row).invoke(x, Arrays.stream(numbers).boxed().toArray());
        } catch (InvocationTargetException e) {
            thrown = e.getCause().getClass().getName();
        }
        String wanted = due < 0 ? "none" : THROWN[due];
        String call = row.name + Arrays.toString(numbers);
        CHECK.is(call + " throws " + wanted + ", not " + thrown, 1, thrown.equals(wanted) ? 1 : 0);
        if (due >= 0) {
            refused[due]++;
        }
        CHECK.is("status(0) behind " + call, refused[0], x.status(0));
        CHECK.is("status(1) behind " + call, refused[1], x.status(1));
    }

    private static Method method(Row row) {
        return Arrays.stream(HoopHours.class.getDeclaredMethods())
            .filter(method -> method.getName().equals(row.name) && method.getParameterCount() == row.numbers.length)
            .findFirst().orElseThrow();
    }

    private static void texts() {
        int[] tapes = {0, 20, 60, 80, 140, 160, 580, 600};
        int[] most = {600, 150, 150, 60};
        for (int tape : tapes) {
            for (int text = 0; text < 4; text++) {
                CHECK.promise(3 + text, "a text of a tape of " + tape);
                int longest = Math.min(tape, most[text]);
                for (int n : new int[] {longest + 1, -1, Integer.MIN_VALUE, Integer.MAX_VALUE, 601}) {
                    HoopHours x = withTape(tape);
                    int kind = text;
                    List<Integer> before = Look.atAll(x);
                    CHECK.illegal("n of " + n, () -> ask(x, kind, n));
                    CHECK.same("behind n of " + n, before, Look.atAll(x));
                    CHECK.is("status(1)", 1, x.status(1));
                }
                for (int n : new int[] {0, longest}) {
                    HoopHours x = withTape(tape);
                    CHECK.is("n of " + n, text == 1 ? -9 : 0, ask(x, text, n));
                    CHECK.is("fault() of n of " + n, text == 1 ? n : -1, x.fault());
                    CHECK.is("count(1), the tape is empty then", 0, x.count(1));
                    CHECK.is("status(1)", 0, x.status(1));
                }
            }
        }
    }

    private static HoopHours withTape(int bytes) {
        HoopHours x = Check.withPark("walk 1 1;walk 1 1;child 1 3;hoop 1;long 9;");
        Check.songs(x, "1 5;");
        Check.feed(x, " ".repeat(bytes));
        return x;
    }

    private static int ask(HoopHours x, int text, int n) {
        return text == 0 ? x.park(n) : text == 1 ? x.law(n) : text == 2 ? x.work(n) : x.songs(n);
    }

    private static void neverRefused() {
        HoopHours x = Check.withPark("walk 1 1;");
        for (int what : new int[] {-1, 2, 3, 99, Integer.MIN_VALUE, Integer.MAX_VALUE}) {
            CHECK.promise(41, "status");
            CHECK.is("status(" + what + ")", -1, x.status(what));
            CHECK.promise(42, "count");
            CHECK.is("count(" + what + ")", what == 2 ? 0 : -1, x.count(what));
        }
        CHECK.promise(41, "status, what answers NONE is not refused");
        x.undo();
        x.restore();
        x.image();
        x.image();
        x.image();
        x.image();
        x.match(0, 0);
        x.listen(0);
        x.watch(8, 0);
        x.debtor(0);
        x.slowest(0);
        Check.park(x, "x");
        for (int i = 0; i < 31; i++) {
            x.feed(0, 0, 0, 0, 0);
        }
        CHECK.is("status(0)", 0, x.status(0));
        CHECK.is("status(1)", 0, x.status(1));
    }

    /** An object is used for at most 512 calls. */
    private static void manyRefused() {
        CHECK.promise(41, "status, of 510 calls");
        HoopHours x = new HoopHours();
        for (int i = 0; i < 300; i++) {
            CHECK.noSuch("load(0)", () -> x.load(0));
        }
        for (int i = 0; i < 210; i++) {
            CHECK.illegal("cover(1)", () -> x.cover(1));
        }
        CHECK.is("status(0)", 300, x.status(0));
        CHECK.is("status(1)", 210, x.status(1));
    }
}
