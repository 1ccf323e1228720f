/** Promises 13 and 14, and how a law reckons. */
public final class LawTest {
    private static final String PARK = "walk 2 4;walk 5 0;walk 3 16;child 3 7;child 6 10;child 1 4;hoop 2;hoop 5;";
    private static final Check CHECK = new Check();

    public static void main(String[] args) {
        plainLaw();
        reckoning();
        facts();
        bounds();
        wouldBe();
        CHECK.end();
    }

    private static void plainLaw() {
        CHECK.promise(13, "minutes");
        HoopHours x = Check.withPark(PARK);
        CHECK.is("minutes(0, 0, 0)", 6, x.minutes(0, 0, 0));
        CHECK.is("minutes(1, 1, 1)", 10, x.minutes(1, 1, 1));
        CHECK.is("minutes(1, 2, 1)", 35, x.minutes(1, 2, 1));
        Check.work(x, "give 0 1;roll;roll;");
        CHECK.is("minutes of one who is tired", 12, x.minutes(1, 1, 1));
        CHECK.noSuch("minutes(3, 0, 0)", () -> x.minutes(3, 0, 0));
        CHECK.noSuch("minutes(0, 3, 0)", () -> x.minutes(0, 3, 0));
        CHECK.noSuch("minutes(0, 0, 2)", () -> x.minutes(0, 0, 2));
        CHECK.noSuch("minutes(-1, 0, 0)", () -> x.minutes(-1, 0, 0));
        CHECK.noSuch("minutes(0, -1, 0)", () -> x.minutes(0, -1, 0));
        CHECK.noSuch("minutes(0, 0, -1)", () -> x.minutes(0, 0, -1));
    }

    private static void law(String text, int due) {
        HoopHours x = Check.withPark(PARK);
        CHECK.is("law " + text, 1, Check.law(x, text));
        CHECK.is("minutes by " + text, due, x.minutes(0, 0, 0));
    }

    private static void reckoning() {
        CHECK.promise(4, "law, what comes out");
        law("10 - 3 - 2", 5);
        law("10 - (3 - 2)", 9);
        law("2 + 3 * 4", 14);
        law("(2 + 3) * 4", 20);
        law("90 / 7 / 2", 6);
        law("90 / (7 / 2)", 30);
        law("17 % 10 % 4", 3);
        law("17 % (10 % 4)", 1);
        law("7 * 3 % 5 * 2", 2);
        law("100 / 7 * 7", 98);
        law("2*3+4*5-6/2", 23);
        law("9 + (0 - 7) / 2", 6);
        law("9 + (0 - 7) % 2", 8);
        law("9 + (0 - 7) % (0 - 4)", 6);
        law("9 + 7 % (0 - 4)", 12);
        law("9 + 7 / (0 - 4)", 8);
        law("9 + 7 / 0", 9);
        law("9 + 7 % 0", 9);
        law("9 + 7 / (3 - 3) * 5", 9);
        law("least[5,3]", 3);
        law("least[3,5]", 3);
        law("least[3,3]", 3);
        law("most[5,3]", 5);
        law("most[3,5]", 5);
        law("most[least[9,8],least[7,10]] + 1", 9);
        law("20 - most[3 + 4, 2 * 5] * least[1, 2]", 10);
        law("5 + least[0 - 3, 0 - 4]", 1);
        law("999*999*999*3", 1);
        law("(999*999*999*999 % 100 + 100) % 100", 29);
        law("999*999*999 / 999 / 111 / 111 + 5", 86);
        law("(512*512*512*16) / 512 / 512 / 512 + 20", 4);
        law("(512*512*512*16) / (0 - 1) / 512 / 512 / 512 + 20", 4);
        law("5 + (512*512*512*16) % (0 - 1)", 5);
        law("512*512*512*16 - 1", 99);
        law("(512*512*512*16 - 1) % 100", 47);
    }

    private static void facts() {
        CHECK.promise(4, "law, its words");
        HoopHours x = Check.with(PARK, "", "give 0 1;roll;roll;bribe 1 8;rain;");
        int[] due = {5, 6, 10, 5, 2, 1, 1, 1, 8};
        String[] words = {"length", "pace", "age", "weight", "tired", "rain", "walk", "hoop", "bribe"};
        for (int i = 0; i < due.length; i++) {
            Check.law(x, words[i]);
            CHECK.is("minutes(1, 1, 1) by " + words[i], due[i], x.minutes(1, 1, 1));
            Check.law(x, words[i] + " * 10 + 7");
            CHECK.is("minutes(1, 1, 1) by 10 times " + words[i], Math.min(99, due[i] * 10 + 7), x.minutes(1, 1, 1));
        }
        Check.law(x, "walk * 10 + hoop + 1");
        CHECK.is("minutes(2, 0, 0)", 21, x.minutes(2, 0, 0));
        CHECK.is("minutes(0, 0, 1)", 2, x.minutes(0, 0, 1));
        Check.law(x, "rain * 5 + bribe + tired * 20 + 1");
        CHECK.is("minutes(0, 0, 0)", 6, x.minutes(0, 0, 0));
        CHECK.is("minutes(0, 1, 0)", 54, x.minutes(0, 1, 0));
    }

    private static void bounds() {
        CHECK.promise(13, "minutes, 1 to 99");
        law("0", 1);
        law("1", 1);
        law("2", 2);
        law("1 - 2", 1);
        law("98", 98);
        law("99", 99);
        law("100", 99);
        law("999", 99);
    }

    private static void wouldBe() {
        CHECK.promise(14, "would");
        HoopHours x = Check.with(PARK, "", "rain;bribe 0 9;give 0 0;roll;");
        CHECK.is("would(5, 3, 7, 2, 4, 1, 9)", 16, x.would(5, 3, 7, 2, 4, 1, 9));
        CHECK.is("would(20, 1, 3, 9, 99, 0, 0)", 99, x.would(20, 1, 3, 9, 99, 0, 0));
        CHECK.is("would(1, 9, 3, 1, 0, 0, 0)", 1, x.would(1, 9, 3, 1, 0, 0, 0));
        Check.law(x, "length * 3 + pace * 2 - age + weight + tired + rain * 30 + walk * 50 + hoop * 50 + bribe");
        CHECK.is("minutes(2, 1, 1), ahead of it", 99, x.minutes(2, 1, 1));
        CHECK.is("would(1, 2, 3, 4, 5, 0, 7)", 20, x.would(1, 2, 3, 4, 5, 0, 7));
        CHECK.is("would(1, 2, 3, 4, 5, 1, 7)", 50, x.would(1, 2, 3, 4, 5, 1, 7));
        CHECK.is("would(20, 1, 14, 1, 0, 0, 0)", 49, x.would(20, 1, 14, 1, 0, 0, 0));
        int[] least = {1, 1, 3, 1, 0, 0, 0};
        int[] most = {20, 9, 14, 9, 99, 1, 99};
        for (int i = 0; i < 7; i++) {
            int[] low = {2, 2, 4, 2, 2, 0, 2};
            int[] high = low.clone();
            low[i] = least[i] - 1;
            high[i] = most[i] + 1;
            CHECK.illegal("would, number " + i + " too small", () -> ask(x, low));
            CHECK.illegal("would, number " + i + " too great", () -> ask(x, high));
            low[i] = least[i];
            high[i] = most[i];
            CHECK.is("would, number " + i + " least", 1, ask(x, low) > 0 ? 1 : 0);
            CHECK.is("would, number " + i + " most", 1, ask(x, high) > 0 ? 1 : 0);
        }
        HoopHours fresh = new HoopHours();
        CHECK.is("would without a park", 12, fresh.would(6, 6, 3, 5, 1, 1, 99));
    }

    private static int ask(HoopHours x, int[] a) {
        return x.would(a[0], a[1], a[2], a[3], a[4], a[5], a[6]);
    }
}
