/** Promises 20 to 23: hoops given to children, and who bowled it by what was heard. */
public final class MatchTest {
    private static final String PARK = "walk 2 4;walk 5 0;walk 3 16;child 3 7;child 6 10;child 1 4;hoop 2;hoop 5;";
    private static final Check CHECK = new Check();

    public static void main(String[] args) {
        matching();
        alikeWays();
        againstAllWays();
        fitting();
        listening();
        CHECK.end();
    }

    private static void matching() {
        CHECK.promise(20, "match");
        HoopHours x = Check.withPark(PARK);
        CHECK.is("match(3, 30)", 3, x.match(3, 30));
        CHECK.is("match(1, 20)", 1, x.match(1, 20));
        CHECK.is("match(2, 80)", 2, x.match(2, 80));
        CHECK.is("match(0, 999)", 0, x.match(0, 999));
        CHECK.is("match(1, 999)", 930, x.match(1, 999));
        CHECK.is("match(1, 0)", 19, x.match(1, 0));
        CHECK.illegal("match(4, 5)", () -> x.match(4, 5));
        CHECK.illegal("match(-1, 5)", () -> x.match(-1, 5));
        CHECK.illegal("match(1, -1)", () -> x.match(1, -1));
        CHECK.illegal("match(1, 1000)", () -> x.match(1, 1000));
        Check.work(x, "give 0 1;roll;roll;");
        CHECK.is("match(1, 25) by one who is tired", 0, x.match(1, 25));
        CHECK.promise(21, "matched");
        HoopHours y = Check.withPark(PARK);
        CHECK.is("matched(3, 30, 0)", 0, y.matched(3, 30, 0));
        CHECK.is("matched(3, 30, 1)", 1, y.matched(3, 30, 1));
        CHECK.is("matched(1, 20, 0)", 1, y.matched(1, 20, 0));
        CHECK.is("matched(1, 20, 1), not told", -1, y.matched(1, 20, 1));
        CHECK.is("matched(2, 80, 1)", 2, y.matched(2, 80, 1));
        CHECK.is("matched(0, 80, 0)", -1, y.matched(0, 80, 0));
        CHECK.noSuch("matched(3, 30, 2)", () -> y.matched(3, 30, 2));
        CHECK.noSuch("matched(9, 3000, -1), ahead of others", () -> y.matched(9, 3000, -1));
        CHECK.illegal("matched(4, 30, 0)", () -> y.matched(4, 30, 0));
        CHECK.illegal("matched(-1, 30, 0)", () -> y.matched(-1, 30, 0));
        CHECK.illegal("matched(3, 1000, 0)", () -> y.matched(3, 1000, 0));
        CHECK.illegal("matched(3, -1, 0)", () -> y.matched(3, -1, 0));
        HoopHours few = Check.withPark("walk 2 4;child 3 7;hoop 2;hoop 5;hoop 1;");
        CHECK.is("match(3, 5) by one child", -1, few.match(3, 5));
        CHECK.is("matched(3, 5, 0) by one child", -1, few.matched(3, 5, 0));
        CHECK.is("match(4, 5) by one child", 0, few.match(4, 5));
        CHECK.is("matched(4, 5, 2) by one child", 0, few.matched(4, 5, 2));
        HoopHours none = Check.withPark("walk 2 4;hoop 2;");
        CHECK.is("match(1, 5) by no child", -1, none.match(1, 5));
        CHECK.is("match(0, 5) by no child", 0, none.match(0, 5));
    }

    private static void alikeWays() {
        CHECK.promise(21, "matched, the first of alike ways");
        HoopHours x = Check.with("walk 1 0;" + "child 1 3;".repeat(8) + "hoop 1;".repeat(8), "9", "");
        CHECK.is("match(255, 4)", 40, x.match(255, 4));
        for (int hoop = 0; hoop < 8; hoop++) {
            CHECK.is("matched(255, 4, " + hoop + ")", hoop, x.matched(255, 4, hoop));
        }
        CHECK.is("matched(168, 4, 7)", 2, x.matched(168, 4, 7));
        CHECK.is("matched(168, 4, 5)", 1, x.matched(168, 4, 5));
        CHECK.is("matched(168, 4, 3)", 0, x.matched(168, 4, 3));
        HoopHours y = Check.withPark("walk 1 0;child 2 3;child 1 3;child 3 3;hoop 1;hoop 1;");
        Check.law(y, "pace * 10");
        CHECK.is("match(3, 15): 10 and 20", 10, y.match(3, 15));
        CHECK.is("matched(3, 15, 0)", 0, y.matched(3, 15, 0));
        CHECK.is("matched(3, 15, 1)", 1, y.matched(3, 15, 1));
        CHECK.is("match(3, 25): 20 and 30", 10, y.match(3, 25));
        CHECK.is("matched(3, 25, 0)", 0, y.matched(3, 25, 0));
        CHECK.is("matched(3, 25, 1)", 2, y.matched(3, 25, 1));
    }

    private static void againstAllWays() {
        CHECK.promise(20, "match, of all ways the least");
        HoopHours x = Check.withPark("walk 7 0;walk 9 3;child 2 5;child 7 9;child 4 14;child 9 3;child 3 8;"
            + "hoop 3;hoop 8;hoop 1;hoop 6;");
        Check.law(x, "(length * weight * 7 + age * pace * 13 + hoop * age * 31) % 41 + 1");
        for (int m = 0; m < 100; m += 7) {
            for (int hoops = 0; hoops < 16; hoops++) {
                int[] best = best(x, hoops, m);
                CHECK.is("match(" + hoops + ", " + m + ")", best[4], x.match(hoops, m));
                for (int hoop = 0; hoop < 4; hoop++) {
                    CHECK.is("matched(" + hoops + ", " + m + ", " + hoop + ")", best[hoop], x.matched(hoops, m, hoop));
                }
            }
        }
    }

    /** Goes through all ways in their order; a child of -1 is for a hoop that is not told. */
    private static int[] best(HoopHours x, int hoops, int m) {
        int[] best = {-1, -1, -1, -1, Integer.MAX_VALUE};
        for (int way = 0; way < 6 * 6 * 6 * 6; way++) {
            int[] of = {way / 216 - 1, way / 36 % 6 - 1, way / 6 % 6 - 1, way % 6 - 1, 0};
            int used = 0;
            boolean right = true;
            for (int hoop = 0; hoop < 4; hoop++) {
                boolean told = (hoops >> hoop & 1) == 1;
                right &= told == (of[hoop] >= 0) && (of[hoop] < 0 || (used >> of[hoop] & 1) == 0);
                if (of[hoop] >= 0) {
                    used |= 1 << of[hoop];
                    of[4] += Math.abs(x.lasts(hoop, of[hoop]) - m);
                }
            }
            if (right && of[4] < best[4]) {
                best = of;
            }
        }
        return best;
    }

    private static void fitting() {
        CHECK.promise(22, "fits");
        HoopHours x = Check.withPark(PARK);
        CHECK.is("fits(0) without songs", 6, x.fits(0));
        CHECK.is("fits(1) without songs", 0, x.fits(1));
        Check.songs(x, "1 6;");
        CHECK.is("fits(0) of 1 6", 1, x.fits(0));
        CHECK.is("fits(1) of 1 6", 0, x.fits(1));
        Check.songs(x, "2 12;1 4;");
        CHECK.is("fits(0) of 1 4, 2 12", 1, x.fits(0));
        CHECK.is("fits(1) of 1 4, 2 12", 10, x.fits(1));
        Check.songs(x, "2 13;1 4;");
        CHECK.is("fits(0) of 1 4, 2 13", 0, x.fits(0));
        CHECK.is("fits(1) of 1 4, 2 13", -1, x.fits(1));
        CHECK.illegal("fits(2)", () -> x.fits(2));
        CHECK.illegal("fits(-1)", () -> x.fits(-1));
        Check.songs(x, "1 17;");
        Check.law(x, "rain * 10 + bribe + hoop * 3 + tired * 50 + 4");
        Check.work(x, "give 0 2;rain;roll;roll;bribe 2 3;bribe 0 3;");
        CHECK.is("fits(0) in rain, not tired", 3, x.fits(0));
        CHECK.is("fits(1), child 0 and hoop 0", 0, x.fits(1));
        Check.songs(x, "2 84;");
        CHECK.is("fits(0), tired of one walk", 3, x.fits(0));
        Check.songs(x, "1 14;2 78;");
        CHECK.is("fits(1), child 1 and hoop 0", 10, x.fits(1));
        CHECK.is("fits(0) of a new object", 0, new HoopHours().fits(0));
        HoopHours y = Check.withPark("child 1 3;hoop 1;");
        CHECK.is("fits(0) without walks", 1, y.fits(0));
    }

    private static void listening() {
        CHECK.promise(23, "listen");
        HoopHours x = Check.withPark(PARK);
        CHECK.is("listen(0)", 1, x.listen(0));
        CHECK.is("listen(1)", 1, x.listen(1));
        Check.songs(x, "1 6;");
        CHECK.is("listen(0), gate 1 was heard at", 2, x.listen(0));
        CHECK.is("listen(1)", 1, x.listen(1));
        Check.songs(x, "1 4;2 12;");
        CHECK.is("listen(0), no gate is left", -1, x.listen(0));
        CHECK.is("listen(1), no gate is left", -1, x.listen(1));
        Check.songs(x, "2 1;");
        CHECK.is("listen(0), nothing fits", 1, x.listen(0));
        CHECK.is("listen(1), nothing fits", 0, x.listen(1));
        CHECK.illegal("listen(2)", () -> x.listen(2));
        CHECK.illegal("listen(-1)", () -> x.listen(-1));
        Check.songs(x, "");
        Check.law(x, "walk * pace + 1");
        CHECK.is("listen(0): all alike at gate 1, by children at gate 2", 2, x.listen(0));
        CHECK.is("listen(1)", 2, x.listen(1));
        Check.law(x, "least[walk, 1] * least[pace, 3] + 1");
        CHECK.is("listen(0)", 2, x.listen(0));
        CHECK.is("listen(1), two children alike", 4, x.listen(1));
        Check.law(x, "5");
        CHECK.is("listen(0), the first of alike ones", 1, x.listen(0));
        CHECK.is("listen(1), all are left", 6, x.listen(1));
        HoopHours y = Check.withPark("walk 1 0;child 1 3;hoop 1;");
        CHECK.is("listen(0) by one walk", -1, y.listen(0));
        HoopHours z = Check.with("walk 20 0;".repeat(8) + "child 1 3;child 2 3;hoop 1;", "least[pace, walk] + 98", "");
        CHECK.is("listen(0), always 99", 1, z.listen(0));
        CHECK.is("listen(1), always 99", 2, z.listen(1));
    }
}
