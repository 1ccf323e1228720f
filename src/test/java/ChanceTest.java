/** Promises 24 to 30: falls as fractions, nannies, toffees and shares. */
public final class ChanceTest {
    private static final String PARK = "walk 2 4;walk 5 0;walk 3 16;child 3 7;child 6 10;child 1 4;hoop 2;hoop 5;";
    private static final Check CHECK = new Check();

    public static void main(String[] args) {
        safety();
        means();
        standing();
        covering();
        watching();
        toffees();
        shares();
        CHECK.end();
    }

    private static void safety() {
        CHECK.promise(24, "safe");
        HoopHours x = Check.withPark(PARK);
        CHECK.is("safe(1, 0)", 3, x.safe(1, 0));
        CHECK.is("safe(1, 1)", 4, x.safe(1, 1));
        CHECK.is("safe(3, 0)", 3, x.safe(3, 0));
        CHECK.is("safe(7, 0)", 0, x.safe(7, 0));
        CHECK.is("safe(7, 1)", 1, x.safe(7, 1));
        CHECK.is("safe(2, 0)", 1, x.safe(2, 0));
        CHECK.is("safe(2, 1)", 1, x.safe(2, 1));
        CHECK.is("safe(0, 0)", 1, x.safe(0, 0));
        CHECK.is("safe(0, 1)", 1, x.safe(0, 1));
        CHECK.illegal("safe(8, 0)", () -> x.safe(8, 0));
        CHECK.illegal("safe(-1, 0)", () -> x.safe(-1, 0));
        CHECK.illegal("safe(1, 2)", () -> x.safe(1, 2));
        CHECK.illegal("safe(1, -1)", () -> x.safe(1, -1));
        HoopHours y = Check.withPark("walk 1 1;walk 1 3;walk 1 5;walk 1 7;walk 1 9;walk 1 11;walk 1 13;walk 1 15;");
        CHECK.is("safe(255, 0)", 15L * 13 * 11 * 9 * 7 * 5 * 3, y.safe(255, 0));
        CHECK.is("safe(255, 1)", 4294967296L, y.safe(255, 1));
        CHECK.is("safe(136, 0)", 9, y.safe(136, 0));
        CHECK.is("safe(136, 1)", 256, y.safe(136, 1));
        HoopHours z = Check.withPark("walk 1 4;walk 1 8;walk 1 10;");
        CHECK.is("safe(7, 0) of 3/4, 1/2, 3/8", 9, z.safe(7, 0));
        CHECK.is("safe(7, 1) of 3/4, 1/2, 3/8", 64, z.safe(7, 1));
    }

    private static void means() {
        CHECK.promise(25, "mean");
        HoopHours x = Check.withPark(PARK);
        CHECK.is("mean(1, 0)", 5, x.mean(1, 0));
        CHECK.is("mean(1, 1)", 4, x.mean(1, 1));
        CHECK.is("mean(0, 0)", 0, x.mean(0, 0));
        CHECK.is("mean(0, 1)", 1, x.mean(0, 1));
        CHECK.is("mean(4, 0)", 5, x.mean(4, 0));
        CHECK.is("mean(4, 1)", 1, x.mean(4, 1));
        CHECK.is("mean(99, 0)", 495, x.mean(99, 0));
        CHECK.is("mean(99, 1)", 4, x.mean(99, 1));
        CHECK.illegal("mean(100, 0)", () -> x.mean(100, 0));
        CHECK.illegal("mean(-1, 0)", () -> x.mean(-1, 0));
        CHECK.illegal("mean(1, 2)", () -> x.mean(1, 2));
        CHECK.illegal("mean(1, -1)", () -> x.mean(1, -1));
        HoopHours y = Check.withPark("walk 1 1;walk 1 2;");
        CHECK.is("mean(3, 0)", 9, y.mean(3, 0));
        CHECK.is("mean(3, 1)", 16, y.mean(3, 1));
    }

    private static void standing() {
        CHECK.promise(26, "stands");
        HoopHours x = new HoopHours();
        CHECK.is("stands(8, 3, 0)", 1, x.stands(8, 3, 0));
        CHECK.is("stands(8, 3, 1)", 8, x.stands(8, 3, 1));
        CHECK.is("stands(3, 12, 0)", 23298085122481L, x.stands(3, 12, 0));
        CHECK.is("stands(3, 12, 1)", 281474976710656L, x.stands(3, 12, 1));
        CHECK.is("stands(6, 2, 0)", 25, x.stands(6, 2, 0));
        CHECK.is("stands(6, 2, 1)", 64, x.stands(6, 2, 1));
        CHECK.is("stands(16, 1, 0)", 0, x.stands(16, 1, 0));
        CHECK.is("stands(16, 1, 1)", 1, x.stands(16, 1, 1));
        CHECK.is("stands(16, 0, 0)", 1, x.stands(16, 0, 0));
        CHECK.is("stands(0, 12, 0)", 1, x.stands(0, 12, 0));
        CHECK.is("stands(0, 12, 1)", 1, x.stands(0, 12, 1));
        CHECK.illegal("stands(17, 1, 0)", () -> x.stands(17, 1, 0));
        CHECK.illegal("stands(-1, 1, 0)", () -> x.stands(-1, 1, 0));
        CHECK.illegal("stands(1, 13, 0)", () -> x.stands(1, 13, 0));
        CHECK.illegal("stands(1, -1, 0)", () -> x.stands(1, -1, 0));
        CHECK.illegal("stands(1, 1, 2)", () -> x.stands(1, 1, 2));
        CHECK.illegal("stands(1, 1, -1)", () -> x.stands(1, 1, -1));
    }

    private static void covering() {
        CHECK.promise(27, "cover");
        HoopHours x = Check.withPark(PARK);
        CHECK.is("cover(7)", 3, x.cover(7));
        CHECK.is("cover(4)", 1, x.cover(4));
        CHECK.is("cover(2)", 2, x.cover(2));
        CHECK.is("cover(1)", 1, x.cover(1));
        CHECK.is("cover(5), gate 0 begins one and ends one", 1, x.cover(5));
        CHECK.is("cover(3)", 2, x.cover(3));
        CHECK.is("cover(6)", 4, x.cover(6));
        CHECK.is("cover(0)", 0, x.cover(0));
        CHECK.illegal("cover(8)", () -> x.cover(8));
        CHECK.illegal("cover(-1)", () -> x.cover(-1));
        HoopHours y = Check.withPark("walk 1 1;".repeat(8));
        CHECK.is("cover(255)", 0b01010101, y.cover(255));
        CHECK.is("cover(0b00011000)", 0b00010000, y.cover(0b00011000));
        CHECK.is("cover(0b01011010)", 0b00010000 + 0b10 + 0b01000000, y.cover(0b01011010));
        HoopHours z = Check.withPark("walk 1 1;".repeat(5));
        CHECK.is("cover(31)", 0b01011, z.cover(31));
        HoopHours one = Check.withPark("walk 1 1;");
        CHECK.is("cover(1) of one walk", 1, one.cover(1));
        HoopHours two = Check.withPark("walk 1 1;walk 1 1;");
        CHECK.is("cover(3) of two walks", 1, two.cover(3));
        CHECK.is("cover(0) without walks", 0, new HoopHours().cover(0));
    }

    private static void watching() {
        CHECK.promise(28, "watch");
        HoopHours x = Check.withPark(PARK);
        int[][] due = {{0, 0}, {1, 20}, {3, 20}, {7, 20}, {-1, -1}, {-1, -1}};
        for (int n = 0; n < due.length; n++) {
            CHECK.is("watch(" + n + ", 0)", due[n][0], x.watch(n, 0));
            CHECK.is("watch(" + n + ", 1)", due[n][1], x.watch(n, 1));
        }
        CHECK.is("watch(8, 0)", -1, x.watch(8, 0));
        CHECK.illegal("watch(9, 0)", () -> x.watch(9, 0));
        CHECK.illegal("watch(-1, 0)", () -> x.watch(-1, 0));
        CHECK.illegal("watch(1, 2)", () -> x.watch(1, 2));
        CHECK.illegal("watch(1, -1)", () -> x.watch(1, -1));
        HoopHours y = Check.withPark("walk 1 1;walk 1 7;walk 1 2;walk 1 9;walk 1 3;");
        CHECK.is("watch(1, 0)", 16, y.watch(1, 0));
        CHECK.is("watch(1, 1)", 12, y.watch(1, 1));
        CHECK.is("watch(2, 0)", 0b10100, y.watch(2, 0));
        CHECK.is("watch(2, 1)", 21, y.watch(2, 1));
        CHECK.is("watch(3, 0)", 0b01011, y.watch(3, 0));
        CHECK.is("watch(3, 1)", 22, y.watch(3, 1));
        HoopHours dry = Check.withPark("walk 1 0;".repeat(8));
        CHECK.is("watch(3, 0) of alike ones", 7, dry.watch(3, 0));
        CHECK.is("watch(3, 1)", 0, dry.watch(3, 1));
        CHECK.is("watch(8, 0)", 255, dry.watch(8, 0));
    }

    private static void toffees() {
        CHECK.promise(29, "toffee");
        HoopHours x = Check.withPark("hoop 2;hoop 5;hoop 1;hoop 9;");
        CHECK.is("toffee(0, 0, 0)", 1, x.toffee(0, 0, 0));
        CHECK.is("toffee(0, 0, 1)", 0, x.toffee(0, 0, 1));
        CHECK.is("toffee(0, 0, 2)", 0, x.toffee(0, 0, 2));
        CHECK.is("toffee(0, 1, 0)", 2, x.toffee(0, 1, 0));
        CHECK.is("toffee(0, 1, 1)", 1, x.toffee(0, 1, 1));
        CHECK.is("toffee(0, 1, 2)", 1, x.toffee(0, 1, 2));
        CHECK.is("toffee(3, 9, 0)", 0, x.toffee(3, 9, 0));
        CHECK.is("toffee(3, 9, 1)", -1, x.toffee(3, 9, 1));
        CHECK.is("toffee(3, 9, 2)", 0, x.toffee(3, 9, 2));
        for (int hoop = 0; hoop < 4; hoop++) {
            for (int k = 0; k <= 9; k++) {
                int[] brute = brute(x.hoop(hoop, 0), k);
                for (int what = 0; what < 3; what++) {
                    CHECK.is("toffee(" + hoop + ", " + k + ", " + what + ")", brute[what], x.toffee(hoop, k, what));
                }
            }
        }
        CHECK.noSuch("toffee(4, 1, 0)", () -> x.toffee(4, 1, 0));
        CHECK.noSuch("toffee(-1, 10, 0)", () -> x.toffee(-1, 10, 0));
        CHECK.illegal("toffee(0, 10, 0)", () -> x.toffee(0, 10, 0));
        CHECK.illegal("toffee(0, -1, 0)", () -> x.toffee(0, -1, 0));
        CHECK.illegal("toffee(0, 1, 3)", () -> x.toffee(0, 1, 3));
        CHECK.illegal("toffee(0, 1, -1)", () -> x.toffee(0, 1, -1));
    }

    /** By a table of what each has. */
    private static int[] brute(int weight, int k) {
        int[][] has = new int[k + 1][k + 1];
        for (int own = 0; own <= k; own++) {
            for (int other = 0; other <= k; other++) {
                has[own][other] = own > other ? weight - own : -own;
            }
        }
        int[] found = {0, -1, 0};
        for (int one = 0; one <= k; one++) {
            for (int other = 0; other <= k; other++) {
                boolean rests = true;
                for (int gift = 0; gift <= k; gift++) {
                    rests &= has[gift][other] <= has[one][other] && has[gift][one] <= has[other][one];
                }
                if (rests && found[0]++ == 0) {
                    found[1] = one * 10 + other;
                    found[2] = has[one][other] + has[other][one];
                }
            }
        }
        return found;
    }

    private static void shares() {
        CHECK.promise(30, "share");
        HoopHours x = Check.withPark(PARK);
        int[][] due = {
            {0, 7, 20, 7}, {1, 7, 20, 9}, {2, 7, 20, 4}, {1, 7, 21, 10}, {1, 7, 99, 10}, {0, 7, 99, 7},
            {0, 7, 13, 4}, {1, 7, 13, 4}, {2, 7, 13, 4}, {0, 7, 14, 5}, {2, 7, 14, 4}, {0, 7, 15, 5},
            {0, 7, 2, 0}, {0, 7, 3, 1}, {0, 7, 0, 0}, {0, 2, 5, 0}, {1, 2, 5, 5}, {2, 5, 9, 4}, {0, 5, 9, 5},
            {0, 0, 9, 0}, {1, 6, 14, 10}, {1, 6, 13, 9}, {1, 0, 0, 0},
        };
        for (int[] row : due) {
            CHECK.is("share(" + row[0] + ", " + row[1] + ", " + row[2] + ")", row[3], x.share(row[0], row[1], row[2]));
        }
        CHECK.noSuch("share(3, 7, 9)", () -> x.share(3, 7, 9));
        CHECK.noSuch("share(-1, 9, 900)", () -> x.share(-1, 9, 900));
        CHECK.illegal("share(0, 8, 9)", () -> x.share(0, 8, 9));
        CHECK.illegal("share(0, -1, 9)", () -> x.share(0, -1, 9));
        CHECK.illegal("share(0, 7, 100)", () -> x.share(0, 7, 100));
        CHECK.illegal("share(0, 7, -1)", () -> x.share(0, 7, -1));
        HoopHours y = Check.withPark("child 1 14;".repeat(8));
        CHECK.is("share(7, 255, 99)", 12, y.share(7, 255, 99));
        CHECK.is("share(7, 128, 99)", 14, y.share(7, 128, 99));
        CHECK.is("share(7, 192, 28)", 14, y.share(7, 192, 28));
        CHECK.is("share(7, 192, 27)", 13, y.share(7, 192, 27));
    }
}
