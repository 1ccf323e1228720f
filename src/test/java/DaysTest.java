/** Promises 37 and 38: days by seeds. */
public final class DaysTest {
    private static final String PARK = "walk 2 4;walk 5 0;walk 3 16;child 3 7;child 6 10;child 1 4;"
        + "hoop 2;hoop 5;long 20;fine 4;";
    private static final Check CHECK = new Check();

    public static void main(String[] args) {
        byHand();
        againstDraws();
        edges();
        spans();
        CHECK.end();
    }

    private static void days(HoopHours x, int seed, int rolls, int q, int... due) {
        for (int what = 0; what < 4; what++) {
            CHECK.is("days(" + seed + ", " + rolls + ", " + q + ", " + what + ")", due[what], x.days(seed, rolls, q, what));
        }
    }

    private static void byHand() {
        CHECK.promise(37, "days");
        HoopHours x = Check.with("walk 1 16;walk 1 0;child 9 3;hoop 1;long 4;fine 3;", "rain * 10 + 1", "give 0 0;");
        days(x, 5, 2, 0, 7, 1, 0, 3);
        days(x, 5, 2, 16, 27, 1, 2, 3);
        days(x, 5, 1, 0, 6, 1, 0, 0);
        days(x, 5, 4, 0, 14, 2, 0, 6);
        CHECK.is("told(8), no rain stays", 0, x.told(8));
        Check.work(x, "rain;");
        days(x, 5, 2, 0, 7, 1, 0, 3);
        CHECK.is("told(8), the rain stays", 1, x.told(8));
        Check.work(x, "roll;roll;");
        CHECK.is("child(0, 4)", 3, x.child(0, 4));
        days(x, 5, 2, 0, 7, 1, 0, 3);
        HoopHours slow = Check.with("walk 1 16;child 9 3;hoop 1;long 103;fine 3;", "99", "give 0 0;");
        days(slow, 1, 1, 0, 104, 1, 0, 3);
    }

    /** Draws as the document tells them, in numbers of 64 bits. */
    private static void againstDraws() {
        CHECK.promise(37, "days, draws");
        HoopHours x = Check.with("walk 1 5;walk 1 11;child 9 3;hoop 1;long 20;fine 2;", "rain * 7 + walk * 3 + 4", "give 0 0;");
        int[] seeds = {0, 1, -1, 77, 123456789, Integer.MIN_VALUE, Integer.MAX_VALUE, -987654};
        int[] falls = {5, 11};
        for (int seed : seeds) {
            for (int rolls = 1; rolls <= 200; rolls = rolls * 2 + 1) {
                long drawn = seed & 0xffffffffL;
                int[] due = new int[4];
                int hour = 0;
                for (int i = 0; i < rolls; i++) {
                    drawn = (drawn * 1103515245L + 12345L) & 0xffffffffL;
                    int rain = (drawn / 65536 % 32768) % 16 < 6 ? 1 : 0;
                    drawn = (drawn * 1103515245L + 12345L) & 0xffffffffL;
                    int fall = (drawn / 65536 % 32768) % 16 < falls[i % 2] ? 1 : 0;
                    int took = rain * 7 + i % 2 * 3 + 4 + fall * 5;
                    hour = i % 2 == 0 ? took : hour + took;
                    due[0] += took;
                    due[1] += fall;
                    due[2] += rain;
                    due[3] += i % 2 == 1 && hour > 20 ? 2 : 0;
                }
                days(x, seed, rolls, 6, due);
            }
        }
    }

    private static void edges() {
        CHECK.promise(37, "days, edges");
        HoopHours x = Check.with(PARK.replace("walk 2 4", "walk 2 0"), "", "give 0 1;");
        days(x, 9, 200, 16, 24, 1, 3, 4);
        HoopHours none = Check.withPark(PARK);
        days(none, 9, 200, 16, 0, 0, 0, 0);
        days(new HoopHours(), 9, 200, 16, 0, 0, 0, 0);
        HoopHours sweet = Check.with("walk 1 0;child 9 3;hoop 1;", "bribe + 1", "give 0 0;bribe 0 9;");
        days(sweet, 1, 3, 0, 12, 0, 0, 0);
        CHECK.is("child(0, 3)", 9, sweet.child(0, 3));
        CHECK.illegal("days(1, 0, 0, 0)", () -> x.days(1, 0, 0, 0));
        CHECK.illegal("days(1, 201, 0, 0)", () -> x.days(1, 201, 0, 0));
        CHECK.illegal("days(1, 1, 17, 0)", () -> x.days(1, 1, 17, 0));
        CHECK.illegal("days(1, 1, -1, 0)", () -> x.days(1, 1, -1, 0));
        CHECK.illegal("days(1, 1, 0, 4)", () -> x.days(1, 1, 0, 4));
        CHECK.illegal("days(1, 1, 0, -1)", () -> x.days(1, 1, 0, -1));
    }

    private static void spans() {
        CHECK.promise(38, "span");
        HoopHours x = Check.with("walk 1 5;walk 1 1;child 9 3;hoop 1;", "rain * 7 + walk * 3 + 4", "give 0 0;");
        int[] seeds = {0, 50, -3, Integer.MAX_VALUE - 1};
        for (int seed : seeds) {
            for (int many = 1; many <= 20; many += 6) {
                int fewest = Integer.MAX_VALUE;
                int most = Integer.MIN_VALUE;
                int without = 0;
                for (int i = 0; i < many; i++) {
                    fewest = Math.min(fewest, x.days(seed + i, 5, 4, 0));
                    most = Math.max(most, x.days(seed + i, 5, 4, 0));
                    without += x.days(seed + i, 5, 4, 1) == 0 ? 1 : 0;
                }
                CHECK.is("span(" + seed + ", " + many + ", 5, 4, 0)", fewest, x.span(seed, many, 5, 4, 0));
                CHECK.is("span(" + seed + ", " + many + ", 5, 4, 1)", most, x.span(seed, many, 5, 4, 1));
                CHECK.is("span(" + seed + ", " + many + ", 5, 4, 2)", without, x.span(seed, many, 5, 4, 2));
            }
        }
        CHECK.is("span(1, 1, 1, 0, 1)", x.days(1, 1, 0, 0), x.span(1, 1, 1, 0, 1));
        CHECK.is("span(1, 1, 200, 16, 0)", x.days(1, 200, 16, 0), x.span(1, 1, 200, 16, 0));
        HoopHours none = new HoopHours();
        CHECK.is("span(5, 7, 9, 9, 0)", 0, none.span(5, 7, 9, 9, 0));
        CHECK.is("span(5, 7, 9, 9, 1)", 0, none.span(5, 7, 9, 9, 1));
        CHECK.is("span(5, 7, 9, 9, 2)", 7, none.span(5, 7, 9, 9, 2));
        CHECK.is("span(5, 20, 200, 16, 2)", 20, none.span(5, 20, 200, 16, 2));
        CHECK.illegal("span(1, 0, 1, 0, 0)", () -> x.span(1, 0, 1, 0, 0));
        CHECK.illegal("span(1, 21, 1, 0, 0)", () -> x.span(1, 21, 1, 0, 0));
        CHECK.illegal("span(1, 1, 0, 0, 0)", () -> x.span(1, 1, 0, 0, 0));
        CHECK.illegal("span(1, 1, 201, 0, 0)", () -> x.span(1, 1, 201, 0, 0));
        CHECK.illegal("span(1, 1, 1, -1, 0)", () -> x.span(1, 1, 1, -1, 0));
        CHECK.illegal("span(1, 1, 1, 17, 0)", () -> x.span(1, 1, 1, 17, 0));
        CHECK.illegal("span(1, 1, 1, 0, 3)", () -> x.span(1, 1, 1, 0, 3));
        CHECK.illegal("span(1, 1, 1, 0, -1)", () -> x.span(1, 1, 1, 0, -1));
    }
}
