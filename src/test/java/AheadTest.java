/** Promises 15 to 19, 31 to 36: what is asked ahead of its time. */
public final class AheadTest {
    private static final String PARK = "walk 2 4;walk 5 0;walk 3 16;child 3 7;child 6 10;child 1 4;"
        + "hoop 2;hoop 5;long 20;fine 4;";
    private static final Check CHECK = new Check();

    public static void main(String[] args) {
        lasting();
        goingOn();
        goingOnAsByRoll();
        beginnings();
        hours();
        lateHours();
        quickestAndSlowest();
        debts();
        idleLoadAndBowls();
        nothingStaysChanged();
        CHECK.end();
    }

    private static void lasting() {
        CHECK.promise(15, "lasts");
        HoopHours x = Check.withPark(PARK);
        int[][] due = {{29, 19, 69}, {38, 28, 78}};
        for (int hoop = 0; hoop < 2; hoop++) {
            for (int child = 0; child < 3; child++) {
                CHECK.is("lasts(" + hoop + ", " + child + ")", due[hoop][child], x.lasts(hoop, child));
            }
        }
        Check.work(x, "give 0 1;roll;roll;");
        CHECK.is("lasts(0, 1), tired of two", 25, x.lasts(0, 1));
        CHECK.is("lasts(0, 0), not tired", 29, x.lasts(0, 0));
        Check.law(x, "rain * 10 + bribe * 2 + tired + walk + 1");
        Check.work(x, "rain;bribe 1 3;");
        CHECK.is("lasts(1, 1) in rain", 63, x.lasts(1, 1));
        CHECK.is("lasts(1, 0) in rain", 39, x.lasts(1, 0));
        CHECK.noSuch("lasts(2, 0)", () -> x.lasts(2, 0));
        CHECK.noSuch("lasts(0, 3)", () -> x.lasts(0, 3));
        CHECK.noSuch("lasts(-1, 0)", () -> x.lasts(-1, 0));
        CHECK.noSuch("lasts(0, -1)", () -> x.lasts(0, -1));
        HoopHours y = Check.with("walk 1 0;walk 1 0;child 9 3;hoop 1;", "tired", "give 0 0;again 49 [roll;roll;];");
        CHECK.is("lasts(0, 0), tired of 98", 98 + 99, y.lasts(0, 0));
        Check.work(y, "roll;");
        CHECK.is("lasts(0, 0), tired of 99", 99 + 99, y.lasts(0, 0));
        Check.law(y, "99 - tired + 2");
        CHECK.is("lasts(0, 0), never tired of 100", 2 + 2, y.lasts(0, 0));
        CHECK.is("lasts without walks", 0, Check.withPark("child 9 3;hoop 1;").lasts(0, 0));
    }

    private static void ahead(HoopHours x, int n, int... due) {
        for (int what = 0; what < 5; what++) {
            CHECK.is("ahead(" + n + ", " + what + ")", due[what], x.ahead(n, what));
        }
    }

    private static void goingOn() {
        CHECK.promise(16, "ahead");
        HoopHours x = Check.with(PARK, "", "give 0 0;give 1 1;");
        ahead(x, 0, 0, 0, 0, 0, 0);
        ahead(x, 1, 6, 0, 1, 0, 1);
        ahead(x, 2, 19, 0, 2, 0, 2);
        ahead(x, 3, 29, 1, 0, 4, 3);
        ahead(x, 6, 57, 0, 0, 8, 6);
        ahead(x, 7, 66, 0, 1, 8, 7);
        Check.work(x, "roll;");
        ahead(x, 2, 23, 1, 0, 4, 2);
        Check.work(x, "roll;roll;");
        CHECK.is("ahead(3, 3), 4 were owed", 4, x.ahead(3, 3));
        HoopHours y = Check.with(PARK, "", "give 0 0;roll;");
        ahead(y, 9, 23, 1, 0, 4, 2);
        HoopHours z = Check.with(PARK, "", "give 1 0;");
        ahead(z, 9, 0, 0, 0, 0, 0);
        ahead(new HoopHours(), 200, 0, 0, 0, 0, 0);
        HoopHours many = Check.with("walk 1 0;walk 1 0;child 9 3;hoop 1;fine 1;", "60", "give 0 0;");
        ahead(many, 200, 12000, 0, 0, 100, 200);
        CHECK.illegal("ahead(201, 0)", () -> x.ahead(201, 0));
        CHECK.illegal("ahead(-1, 0)", () -> x.ahead(-1, 0));
        CHECK.illegal("ahead(1, 5)", () -> x.ahead(1, 5));
        CHECK.illegal("ahead(1, -1)", () -> x.ahead(1, -1));
    }

    private static void goingOnAsByRoll() {
        CHECK.promise(16, "ahead, as by roll");
        HoopHours x = Check.with(PARK, "bribe + rain * 20 + 1", "give 0 1;give 1 1;rain;bribe 1 5;roll;");
        CHECK.is("ahead(2, 0)", 52, x.ahead(2, 0));
        CHECK.is("ahead(3, 0), the toffees are eaten", 73, x.ahead(3, 0));
        CHECK.is("ahead(198, 0)", 52 + 196 * 21, x.ahead(198, 0));
        int fines = x.ahead(198, 3);
        int told = x.told(9);
        Check.work(x, "again 60 [roll;roll;roll;];again 18 [roll;];");
        CHECK.is("fines of 198 rolls", fines, x.told(9) - told);
    }

    private static void beginnings() {
        CHECK.promise(17, "due");
        HoopHours x = Check.withPark(PARK);
        CHECK.is("due(0) is now", 0, x.due(0));
        CHECK.is("due(1), given to nobody", -1, x.due(1));
        Check.work(x, "give 0 0;");
        CHECK.is("due(1)", 29, x.due(1));
        Check.work(x, "roll;");
        CHECK.is("due(0), it has begun, hoop 1 is given to nobody", -1, x.due(0));
        CHECK.is("due(1)", 23, x.due(1));
        Check.work(x, "give 1 1;");
        CHECK.is("due(0)", 51, x.due(0));
        Check.work(x, "roll;roll;");
        CHECK.is("due(1) is now", 0, x.due(1));
        CHECK.is("due(0)", 28, x.due(0));
        CHECK.noSuch("due(2)", () -> x.due(2));
        CHECK.noSuch("due(-1)", () -> x.due(-1));
        HoopHours y = Check.with("walk 1 0;".repeat(8) + "child 1 3;" + "hoop 1;".repeat(8), "5",
            "again 1[give 0 0;give 1 0;give 2 0;give 3 0;give 4 0;give 5 0;give 6 0;give 7 0;];");
        CHECK.is("due(7)", 280, y.due(7));
        Check.work(y, "roll;");
        CHECK.is("due(0), 63 rolls more", 315, y.due(0));
        HoopHours z = Check.with("walk 1 0;child 1 3;" + "hoop 1;".repeat(3), "99", "give 0 0;give 1 0;");
        CHECK.is("due(2)", 198, z.due(2));
        HoopHours without = Check.withPark("child 1 3;hoop 1;hoop 1;");
        CHECK.is("due(0) without walks", 0, without.due(0));
        CHECK.is("due(1) without walks", -1, without.due(1));
    }

    private static void hours() {
        CHECK.promise(18, "hour");
        HoopHours x = Check.with(PARK, "", "give 0 0;give 1 1;");
        CHECK.is("hour(0)", 0, x.hour(0));
        CHECK.is("hour(28)", 0, x.hour(28));
        CHECK.is("hour(29)", 1, x.hour(29));
        CHECK.is("hour(56)", 1, x.hour(56));
        CHECK.is("hour(57)", 0, x.hour(57));
        CHECK.illegal("hour(-1)", () -> x.hour(-1));
        CHECK.illegal("hour(1000)", () -> x.hour(1000));
        HoopHours y = Check.with(PARK, "3", "give 0 0;roll;");
        CHECK.is("hour(5)", 0, y.hour(5));
        CHECK.is("hour(6), hoop 1 is given to nobody", -1, y.hour(6));
        HoopHours z = Check.with("walk 1 0;child 9 3;hoop 1;", "1", "give 0 0;");
        CHECK.is("hour(399)", 0, z.hour(399));
        CHECK.is("hour(400), by 400 rolls", -1, z.hour(400));
        Check.law(z, "3");
        CHECK.is("hour(999)", 0, z.hour(999));
        CHECK.is("hour(0) of a new object", -1, new HoopHours().hour(0));
    }

    private static void lateHours() {
        CHECK.promise(19, "late");
        HoopHours x = Check.with(PARK, "", "give 0 1;give 1 1;");
        CHECK.is("19 is not too long, 37 is", 1, x.late());
        Check.work(x, "give 0 0;");
        CHECK.is("29 is too long", 0, x.late());
        CHECK.is("nothing is owed", 0, x.told(9));
        HoopHours y = Check.with("walk 1 0;child 9 3;hoop 1;long 50;", "tired / 2 + 1", "give 0 0;");
        CHECK.is("not in the 98 first ones", -1, y.late());
        Check.law(y, "tired / 2 + 2");
        CHECK.is("as it grows tired", 0, y.late());
        HoopHours z = Check.with("walk 1 0;child 9 3;hoop 1;hoop 2;", "hoop * 90 + 1", "give 0 0;");
        CHECK.is("it stands ahead of it", -1, z.late());
        Check.work(z, "give 1 0;roll;");
        CHECK.is("late()", 1, z.late());
        HoopHours begun = Check.with("walk 1 0;walk 1 0;child 9 3;hoop 1;", "rain * 50 + 1", "give 0 0;rain;roll;rain;");
        CHECK.is("52 of this hour is not too long", -1, begun.late());
        Check.law(begun, "10");
        CHECK.is("61 of this hour is", 0, begun.late());
        HoopHours many = Check.with("walk 1 0;".repeat(8) + "child 9 3;hoop 1;fine 0;", "10", "give 0 0;roll;");
        CHECK.is("without a fine, too", 0, many.late());
        HoopHours five = Check.with("walk 1 0;" + "child 1 3;".repeat(5) + "hoop 1;".repeat(5), "",
            "give 0 0;give 1 1;give 2 2;give 3 3;give 4 4;");
        Check.law(five, "hoop / 4 * (tired / 79) * 90 + 1");
        CHECK.is("in the 400th roll", 4, five.late());
        Check.law(five, "(1 - least[hoop, 1]) * (tired / 80) * 90 + 1");
        CHECK.is("not in the 401st one", -1, five.late());
        CHECK.is("late() of a new object", -1, new HoopHours().late());
    }

    private static void quickestAndSlowest() {
        CHECK.promise(31, "quickest");
        HoopHours x = Check.withPark(PARK);
        CHECK.is("quickest(0, 0)", 1, x.quickest(0, 0));
        CHECK.is("quickest(0, 1)", 19, x.quickest(0, 1));
        CHECK.is("quickest(1, 1)", 28, x.quickest(1, 1));
        CHECK.noSuch("quickest(2, 0)", () -> x.quickest(2, 0));
        CHECK.noSuch("quickest(-1, 5)", () -> x.quickest(-1, 5));
        CHECK.illegal("quickest(0, 2)", () -> x.quickest(0, 2));
        CHECK.illegal("quickest(0, -1)", () -> x.quickest(0, -1));
        CHECK.is("slowest(0), none given", -1, x.slowest(0));
        CHECK.is("slowest(1), none given", -1, x.slowest(1));
        Check.law(x, "20 - pace % 5");
        CHECK.is("quickest(0, 0) of 51, 57 and 57", 0, x.quickest(0, 0));
        Check.law(x, "7");
        CHECK.is("quickest(0, 0), the first of alike ones", 0, x.quickest(0, 0));
        CHECK.is("quickest(0, 1)", 21, x.quickest(0, 1));
        HoopHours y = Check.withPark("walk 1 0;hoop 1;");
        CHECK.is("quickest(0, 0) without children", -1, y.quickest(0, 0));
        CHECK.is("quickest(0, 1) without children", -1, y.quickest(0, 1));
        CHECK.promise(36, "slowest");
        Check.work(x, "give 1 0;");
        CHECK.is("slowest(0), one given", 1, x.slowest(0));
        Check.work(x, "give 0 2;");
        CHECK.is("slowest(0), the first of alike ones", 0, x.slowest(0));
        Check.law(x, "pace + weight");
        CHECK.is("slowest(0)", 1, x.slowest(0));
        CHECK.is("slowest(1)", 24, x.slowest(1));
        CHECK.illegal("slowest(2)", () -> x.slowest(2));
        CHECK.illegal("slowest(-1)", () -> x.slowest(-1));
        HoopHours z = Check.with("child 1 3;hoop 1;hoop 2;", "", "give 1 0;");
        CHECK.is("slowest(0) without walks", 1, z.slowest(0));
        CHECK.is("slowest(1) without walks", 0, z.slowest(1));
    }

    private static void debts() {
        CHECK.promise(32, "debtor");
        HoopHours x = Check.with(PARK, "9", "give 0 1;give 1 2;");
        CHECK.is("debtor(0), nothing owed", -1, x.debtor(0));
        CHECK.is("debtor(1), nothing owed", -1, x.debtor(1));
        Check.work(x, "roll;roll;roll;roll;roll;roll;");
        CHECK.is("debtor(0), the first of alike ones", 1, x.debtor(0));
        CHECK.is("debtor(1)", 4, x.debtor(1));
        Check.work(x, "give 0 2;roll;roll;roll;");
        CHECK.is("debtor(0)", 2, x.debtor(0));
        CHECK.is("debtor(1)", 8, x.debtor(1));
        CHECK.illegal("debtor(2)", () -> x.debtor(2));
        CHECK.illegal("debtor(-1)", () -> x.debtor(-1));
        HoopHours one = Check.with("walk 1 0;child 1 3;hoop 1;fine 1;long 1;", "9", "give 0 0;roll;");
        CHECK.is("debtor(0) by a fine of 1", 0, one.debtor(0));
        CHECK.is("debtor(1) by a fine of 1", 1, one.debtor(1));
        HoopHours y = Check.with("walk 1 0;child 1 3;hoop 1;fine 0;long 1;", "9", "give 0 0;roll;");
        CHECK.is("debtor(0) by a fine of 0", -1, y.debtor(0));
    }

    private static void idleLoadAndBowls() {
        CHECK.promise(33, "idle");
        HoopHours x = Check.withPark(PARK);
        CHECK.is("idle()", 7, x.idle());
        Check.work(x, "give 0 1;");
        CHECK.is("idle()", 5, x.idle());
        Check.work(x, "give 1 1;give 0 0;");
        CHECK.is("idle()", 4, x.idle());
        CHECK.is("idle() without children", 0, new HoopHours().idle());
        CHECK.promise(35, "load");
        CHECK.is("load(0)", 2, x.load(0));
        CHECK.is("load(1)", 5, x.load(1));
        CHECK.is("load(2)", 0, x.load(2));
        Check.work(x, "give 1 0;");
        CHECK.is("load(0)", 7, x.load(0));
        CHECK.noSuch("load(3)", () -> x.load(3));
        CHECK.noSuch("load(-1)", () -> x.load(-1));
        CHECK.promise(34, "bowls");
        Check.work(x, "give 1 2;");
        CHECK.is("bowls(0, 0)", 0, x.bowls(0, 0));
        CHECK.is("bowls(0, 4)", 3, x.bowls(0, 4));
        CHECK.is("bowls(2, 4)", 1, x.bowls(2, 4));
        CHECK.is("bowls(0, 200)", 101, x.bowls(0, 200));
        CHECK.is("bowls(2, 200)", 99, x.bowls(2, 200));
        CHECK.is("bowls(1, 200)", 0, x.bowls(1, 200));
        HoopHours y = Check.with(PARK, "", "give 0 2;");
        CHECK.is("bowls(2, 200), hoop 1 is given to nobody", 3, y.bowls(2, 200));
        CHECK.noSuch("bowls(3, 1)", () -> x.bowls(3, 1));
        CHECK.noSuch("bowls(-1, 201)", () -> x.bowls(-1, 201));
        CHECK.illegal("bowls(0, 201)", () -> x.bowls(0, 201));
        CHECK.illegal("bowls(0, -1)", () -> x.bowls(0, -1));
    }

    private static void nothingStaysChanged() {
        CHECK.promise(16, "asked, nothing stays changed");
        HoopHours x = Check.with(PARK, "bribe + tired + rain", "give 0 0;give 1 1;bribe 0 3;bribe 1 2;rain;roll;");
        Check.songs(x, "1 5;");
        int[] before = stateOf(x);
        x.ahead(200, 0);
        x.due(0);
        x.hour(999);
        x.late();
        x.bowls(0, 200);
        x.days(5, 200, 8, 0);
        x.span(5, 20, 200, 8, 0);
        x.match(3, 9);
        x.fits(0);
        x.listen(0);
        x.would(1, 1, 3, 1, 0, 1, 50);
        x.lasts(1, 1);
        int[] after = stateOf(x);
        for (int i = 0; i < before.length; i++) {
            CHECK.is("number " + i + " of the state", before[i], after[i]);
        }
        Check.work(x, "roll;");
        CHECK.is("told(5) by rain, toffees and tiredness as they were", 9, x.told(5));
    }

    private static int[] stateOf(HoopHours x) {
        int[] all = new int[13 + 3 * 6 + 2 * 3 + 3];
        int size = 0;
        for (int what = 0; what < 13; what++) {
            all[size++] = x.told(what);
        }
        for (int child = 0; child < 3; child++) {
            for (int what = 0; what < 6; what++) {
                all[size++] = x.child(child, what);
            }
        }
        for (int hoop = 0; hoop < 2; hoop++) {
            for (int what = 0; what < 3; what++) {
                all[size++] = x.hoop(hoop, what);
            }
        }
        for (int what = 0; what < 3; what++) {
            all[size++] = x.count(what);
        }
        return all;
    }
}
