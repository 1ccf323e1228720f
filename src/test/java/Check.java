import java.nio.charset.StandardCharsets;
import java.util.List;

/** Compares answers with what is due, and feeds texts to an object. */
final class Check {
    interface Call {
        long answer();
    }

    private int wrong;
    private int checked;
    private String promise = "";

    /** All that follows tests this promise. */
    void promise(int number, String name) {
        promise = "promise " + number + ", " + name;
    }

    void is(String call, long due, long got) {
        checked++;
        if (due != got) {
            wrong++;
            System.out.println(promise + ": " + call + " answered " + got + ", due is " + due);
        }
    }

    /** Two looks at all of an object. */
    void same(String when, List<Integer> due, List<Integer> got) {
        checked++;
        if (!due.equals(got)) {
            wrong++;
            System.out.println(promise + ": all " + when + " is " + got + ", due is " + due);
        }
    }

    void noSuch(String call, Call asked) {
        throwsOne(call, "java.util.NoSuchElementException", asked);
    }

    void illegal(String call, Call asked) {
        throwsOne(call, "java.lang.IllegalArgumentException", asked);
    }

    private void throwsOne(String call, String due, Call asked) {
        checked++;
        String got;
        try {
            got = "the answer " + asked.answer();
        } catch (RuntimeException e) {
            got = e.getClass().getName();
        }
        if (!got.equals(due)) {
            wrong++;
            System.out.println(promise + ": " + call + " gave " + got + ", due is " + due);
        }
    }

    void end() {
        System.out.println(checked + " answers checked, " + wrong + " wrong");
        if (wrong > 0 || checked == 0) {
            System.exit(1);
        }
    }

    /** Feeds a text, with bytes 0 behind it; answers its length. */
    static int feed(HoopHours x, String text) {
        byte[] bytes = text.getBytes(StandardCharsets.ISO_8859_1);
        for (int i = 0; i < bytes.length; i += 20) {
            x.feed(number(bytes, i), number(bytes, i + 4), number(bytes, i + 8), number(bytes, i + 12),
                number(bytes, i + 16));
        }
        return bytes.length;
    }

    private static int number(byte[] bytes, int from) {
        int number = 0;
        for (int i = from; i < from + 4; i++) {
            number = number << 8 | (i < bytes.length ? bytes[i] & 255 : 0);
        }
        return number;
    }

    static int park(HoopHours x, String text) {
        return x.park(feed(x, text));
    }

    static int law(HoopHours x, String text) {
        return x.law(feed(x, text));
    }

    static int work(HoopHours x, String text) {
        return x.work(feed(x, text));
    }

    static int songs(HoopHours x, String text) {
        return x.songs(feed(x, text));
    }

    static HoopHours withPark(String text) {
        HoopHours x = new HoopHours();
        park(x, text);
        return x;
    }

    /** One object with a park, a law (the plain one, if empty) and work done. */
    static HoopHours with(String park, String law, String work) {
        HoopHours x = withPark(park);
        if (!law.isEmpty()) {
            law(x, law);
        }
        work(x, work);
        return x;
    }
}
