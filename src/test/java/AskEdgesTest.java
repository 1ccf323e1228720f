/** Promises 13 to 38: each boundary of what is asked, and what is asked where there is nothing, or less than before. */
public final class AskEdgesTest {
    private static final String PARK = "walk 2 4;walk 5 0;walk 3 16;child 3 7;child 6 10;child 1 4;"
        + "hoop 2;hoop 5;long 20;fine 4;";
    private static final String ONE = "walk 1 0;child 9 3;hoop 1;";
    private static final Check CHECK = new Check();

    public static void main(String[] args) {
        numbersThatWrap();
        leastAndMostMinutes();
        lasting();
        goingOn();
        stopsWhereItStands();
        hours();
        lateHours();
        beginnings();
        matching();
        fitting();
        listening();
        fractions();
        nannies();
        gifts();
        shares();
        quickestSlowestDebtor();
        bowlsLoadIdle();
        lessThanBefore();
        nothingThere();
        days();
        spans();
        CHECK.end();
    }

    private static void law(String text, int due) {
        HoopHours x = Check.withPark(PARK);
        CHECK.is("law " + text, 1, Check.law(x, text));
        CHECK.is("minutes(0, 0, 0) by " + text, due, x.minutes(0, 0, 0));
        CHECK.is("would by " + text, due, x.would(2, 3, 7, 2, 0, 0, 0));
    }

    private static void numbersThatWrap() {
        CHECK.promise(4, "law, whole numbers of 32 bits that wrap");
        String least = "512*512*512*16";
        law(least, 1);
        law(least + "-1", 99);
        law("(" + least + "-1)+1", 1);
        law("0-" + least, 1);
        law("0-(" + least + "+1)", 99);
        law("512*512*512*32+7", 7);
        law("(" + least + "-1)*2+9", 7);
        law("(0-" + least + "+1)*(0-1) - " + least + " + 5", 4);
        law("999*999*999*999*999*999*999 % 900 / 10 + 50", 41);
        CHECK.promise(4, "law, / cuts, % leaves, by 0 both are 0");
        law("7/2", 3);
        law("10+(0-7)/2", 7);
        law("10+7/(0-2)", 7);
        law("10+(0-7)/(0-2)", 13);
        law("10+7%(0-2)", 11);
        law("10+(0-7)%2", 9);
        law("10+(0-7)%(0-2)", 9);
        law("10+0/5+0%5", 10);
        law("10+5/0", 10);
        law("10+5%0", 10);
        law("10+0/0+0%0", 10);
        law("10+(0-5)/0+(0-5)%0", 10);
        law("10+5/(2-2)*3+5%(3-3)*3", 10);
        law("(" + least + ")/(0-1)/512/512/512+50", 34);
        law("(" + least + ")%(0-1)+50", 50);
    }

    private static void leastAndMostMinutes() {
        CHECK.promise(13, "minutes, 1 at least, 99 at most");
        law("0-1", 1);
        law("0-999", 1);
        law("0", 1);
        law("1", 1);
        law("2", 2);
        law("98", 98);
        law("99", 99);
        law("100", 99);
        law("999*999", 99);
        HoopHours x = Check.withPark("walk 20 0;walk 1 0;child 1 3;child 9 3;hoop 9;hoop 1;");
        CHECK.is("minutes by the plain law", 99, x.minutes(0, 0, 0));
        CHECK.is("minutes by the plain law, 0 and 1", 1, x.minutes(1, 1, 1));
        CHECK.is("minutes by the plain law, 13 and 1", 14, x.minutes(0, 1, 1));
        CHECK.promise(14, "would, 1 at least, 99 at most");
        CHECK.is("would of 90 and 9 and 0", 99, x.would(15, 1, 3, 9, 0, 0, 0));
        CHECK.is("would of 90 and 8 and 0", 98, x.would(15, 1, 3, 8, 0, 0, 0));
        CHECK.is("would of 90 and 9 and 1", 99, x.would(15, 1, 3, 9, 1, 0, 0));
        Check.law(x, "walk * 50 + hoop * 50 + 3");
        CHECK.is("would, walk and hoop 0", 3, x.would(20, 9, 14, 9, 99, 1, 99));
        Check.law(x, "bribe - 49 + tired * rain");
        CHECK.is("would, bribe of 99", 50, x.would(1, 1, 3, 1, 99, 0, 99));
        CHECK.is("would, tired of 99 in rain", 99, x.would(1, 1, 3, 1, 99, 1, 50));
    }

    private static void lasting() {
        CHECK.promise(15, "lasts, all its walks, from tired as now on, 99 at most");
        HoopHours x = Check.with("walk 1 0;walk 1 0;walk 1 0;child 9 3;child 9 3;hoop 1;", "101 - tired", "give 0 0;again 32 [roll;roll;roll;];");
        CHECK.is("lasts(0, 0), tired of 96, 97, 98", 5 + 4 + 3, x.lasts(0, 0));
        CHECK.is("lasts(0, 1), tired of 0, 1, 2", 99 * 3, x.lasts(0, 1));
        Check.work(x, "roll;");
        CHECK.is("lasts(0, 0), tired of 97, 98, 99; as from gate 0", 4 + 3 + 2, x.lasts(0, 0));
        Check.work(x, "roll;");
        CHECK.is("lasts(0, 0), tired of 98, 99, 99", 3 + 2 + 2, x.lasts(0, 0));
        Check.work(x, "roll;");
        CHECK.is("lasts(0, 0), tired of 99, 99, 99", 2 + 2 + 2, x.lasts(0, 0));
        Check.work(x, "rest 0;");
        CHECK.is("lasts(0, 0), it rested", 99 * 3, x.lasts(0, 0));
        CHECK.promise(15, "lasts, each walk 1 to 99");
        Check.law(x, "0");
        CHECK.is("lasts(0, 0) by 0", 3, x.lasts(0, 0));
        Check.law(x, "100");
        CHECK.is("lasts(0, 0) by 100", 297, x.lasts(0, 0));
        CHECK.is("lasts(0, 0) of 8 walks", 792, Check.with("walk 1 0;".repeat(8) + "child 1 3;hoop 1;", "100", "").lasts(0, 0));
    }

    private static void ahead(HoopHours x, int n, int... due) {
        for (int what = 0; what < 5; what++) {
            CHECK.is("ahead(" + n + ", " + what + ")", due[what], x.ahead(n, what));
        }
    }

    private static void goingOn() {
        CHECK.promise(16, "ahead, of 0 rolls, of 1, of all that ends an hour or a day");
        HoopHours x = Check.with(PARK, "walk + 6 + hoop", "give 0 0;give 1 1;");
        ahead(x, 0, 0, 0, 0, 0, 0);
        ahead(x, 1, 6, 0, 1, 0, 1);
        ahead(x, 2, 13, 0, 2, 0, 2);
        ahead(x, 3, 21, 1, 0, 4, 3);
        ahead(x, 5, 36, 1, 2, 4, 5);
        ahead(x, 6, 45, 0, 0, 8, 6);
        Check.work(x, "again 4 [roll;];");
        ahead(x, 0, 0, 1, 1, 0, 0);
        ahead(x, 1, 8, 1, 2, 0, 1);
        ahead(x, 2, 17, 0, 0, 4, 2);
        CHECK.promise(16, "ahead, tired ones grow tired, 99 at most");
        HoopHours y = Check.with(ONE, "101 - tired", "give 0 0;again 32 [roll;roll;roll;];");
        ahead(y, 1, 5, 0, 0, 0, 1);
        ahead(y, 4, 5 + 4 + 3 + 2, 0, 0, 0, 4);
        ahead(y, 9, 5 + 4 + 3 + 2 * 6, 0, 0, 0, 9);
        CHECK.promise(16, "ahead, fines that come are the child's that bowls the last walk, above N");
        HoopHours z = Check.with("walk 1 0;walk 1 0;child 9 3;hoop 1;long 20;fine 3;", "10", "give 0 0;");
        ahead(z, 2, 20, 0, 0, 0, 2);
        Check.law(z, "10 + walk");
        ahead(z, 2, 21, 0, 0, 3, 2);
        Check.work(z, "roll;roll;");
        ahead(z, 4, 42, 0, 0, 6, 4);
        CHECK.promise(16, "ahead, nothing stays changed");
        CHECK.is("told(6)", 1, z.told(6));
        CHECK.is("told(9)", 3, z.told(9));
        CHECK.is("told(12)", 1, z.told(12));
        CHECK.is("hoop(0, 2)", 21, z.hoop(0, 2));
        CHECK.is("child(0, 2)", 2, z.child(0, 2));
    }

    private static void stopsWhereItStands() {
        CHECK.promise(16, "ahead, one that can't be done is none, and no more are done");
        HoopHours x = Check.with("walk 1 0;child 9 3;hoop 1;hoop 1;hoop 1;", "5", "give 0 0;give 2 0;");
        ahead(x, 1, 5, 1, 0, 0, 1);
        ahead(x, 2, 5, 1, 0, 0, 1);
        ahead(x, 200, 5, 1, 0, 0, 1);
        CHECK.promise(17, "due, NONE where it does not come to it");
        CHECK.is("due(0)", 0, x.due(0));
        CHECK.is("due(1), it comes to it", 5, x.due(1));
        CHECK.is("due(2), behind one given to nobody", -1, x.due(2));
        CHECK.promise(18, "hour, NONE where no roll is done");
        CHECK.is("hour(4)", 0, x.hour(4));
        CHECK.is("hour(5)", -1, x.hour(5));
        CHECK.promise(34, "bowls, no more are done");
        CHECK.is("bowls(0, 200)", 1, x.bowls(0, 200));
        CHECK.promise(37, "days, no more are done");
        CHECK.is("days(1, 200, 16, 0)", 5, x.days(1, 200, 16, 0));
        CHECK.is("days(1, 200, 16, 2)", 1, x.days(1, 200, 16, 2));
        CHECK.promise(19, "late, no more are done");
        Check.law(x, "5 + least[hoop, 1] * 90");
        CHECK.is("late()", -1, x.late());
        Check.work(x, "give 1 0;");
        CHECK.is("late(), given to it", 1, x.late());
    }

    private static void hours() {
        CHECK.promise(18, "hour, a roll of 3 from 0 on: 0, 1, 2");
        HoopHours x = Check.with("walk 1 0;child 9 3;hoop 1;hoop 1;", "3 + hoop", "give 0 0;give 1 0;");
        int[] due = {0, 0, 0, 1, 1, 1, 1, 0, 0, 0, 1, 1, 1, 1, 0};
        for (int m = 0; m < due.length; m++) {
            CHECK.is("hour(" + m + ")", due[m], x.hour(m));
        }
        CHECK.is("hour(999)", 999 % 7 < 3 ? 0 : 1, x.hour(999));
        CHECK.is("hour(998)", 998 % 7 < 3 ? 0 : 1, x.hour(998));
        CHECK.promise(18, "hour, of 400 rolls at most");
        HoopHours y = Check.with(ONE, "1", "give 0 0;");
        CHECK.is("hour(399)", 0, y.hour(399));
        CHECK.is("hour(400)", -1, y.hour(400));
        Check.law(y, "2");
        CHECK.is("hour(799)", 0, y.hour(799));
        CHECK.is("hour(800)", -1, y.hour(800));
        Check.law(y, "2 + least[tired / 99, 1]");
        CHECK.is("hour(999)", 0, y.hour(999));
        CHECK.promise(18, "hour, within an hour that has begun");
        HoopHours z = Check.with("walk 1 0;walk 1 0;child 9 3;hoop 1;hoop 1;", "4", "give 0 0;give 1 0;roll;");
        CHECK.is("hour(3)", 0, z.hour(3));
        CHECK.is("hour(4)", 1, z.hour(4));
        CHECK.is("hour(11)", 1, z.hour(11));
        CHECK.is("hour(12)", 0, z.hour(12));
    }

    private static void lateHours() {
        CHECK.promise(19, "late, as it is over, above N");
        HoopHours x = Check.with("walk 1 0;walk 1 0;child 9 3;hoop 1;hoop 1;hoop 1;long 20;", "10 + walk * (hoop / 2)", "give 0 0;give 1 0;give 2 0;");
        CHECK.is("20, 20 and 21", 2, x.late());
        Check.law(x, "10 + walk * (hoop / 3)");
        CHECK.is("20, 20 and 20", -1, x.late());
        Check.law(x, "10 + walk * least[hoop, 1]");
        CHECK.is("20, 21 and 21, the first", 1, x.late());
        CHECK.promise(19, "late, an hour that is over is none that comes");
        Check.work(x, "again 4 [roll;];");
        CHECK.is("told(12)", 1, x.told(12));
        CHECK.is("the one that is the hour", 2, x.late());
        Check.work(x, "roll;roll;");
        CHECK.is("the next one", 1, x.late());
        CHECK.promise(19, "late, minutes of an hour that has begun count");
        HoopHours y = Check.with("walk 1 0;walk 1 0;child 9 3;hoop 1;long 20;", "15", "give 0 0;roll;");
        Check.law(y, "5");
        CHECK.is("15 and 5", -1, y.late());
        Check.law(y, "6");
        CHECK.is("15 and 6", 0, y.late());
        CHECK.promise(19, "late, 400 rolls at most");
        HoopHours z = Check.with("walk 1 0;" + "child 9 3;".repeat(5) + "hoop 1;".repeat(5), "hoop / 4 * (tired / 79) * 60 + 1",
            "give 0 0;give 1 1;give 2 2;give 3 3;give 4 4;");
        CHECK.is("in the 400th roll", 4, z.late());
        Check.law(z, "(1 - least[hoop, 1]) * (tired / 80) * 60 + 1");
        CHECK.is("in the 401st roll", -1, z.late());
        Check.work(z, "roll;");
        CHECK.is("in the 400th roll, one roll later", 0, z.late());
    }

    private static void beginnings() {
        CHECK.promise(17, "due, 0: it is there now");
        HoopHours x = Check.with("walk 1 0;walk 1 0;child 9 3;hoop 1;", "4 + walk", "give 0 0;");
        CHECK.is("due(0) at gate 0", 0, x.due(0));
        Check.work(x, "roll;");
        CHECK.is("due(0) at gate 1, the next time", 5, x.due(0));
        Check.work(x, "roll;");
        CHECK.is("due(0) at gate 0 again", 0, x.due(0));
        HoopHours y = Check.with("walk 1 0;walk 1 0;child 9 3;hoop 1;hoop 1;", "4 + walk + 10 * hoop", "give 0 0;give 1 0;");
        CHECK.is("due(1)", 9, y.due(1));
        Check.work(y, "roll;");
        CHECK.is("due(0), it is the hour, but not at gate 0", 5 + 14 + 15, y.due(0));
        CHECK.is("due(1)", 5, y.due(1));
        CHECK.promise(17, "due, given to nobody, it is there now all the same");
        HoopHours z = Check.withPark(ONE);
        CHECK.is("due(0)", 0, z.due(0));
        HoopHours far = Check.with("walk 1 0;".repeat(8) + "child 1 3;" + "hoop 1;".repeat(8), "99",
            "give 0 0;give 1 0;give 2 0;give 3 0;give 4 0;give 5 0;give 6 0;give 7 0;roll;");
        CHECK.is("due(0), 63 rolls", 63 * 99, far.due(0));
        CHECK.is("due(7), 55 rolls", 55 * 99, far.due(7));
    }

    private static void matching() {
        CHECK.promise(20, "match, NONE: there are not as many children");
        for (int children = 0; children <= 4; children++) {
            HoopHours x = Check.with("walk 1 0;" + "child 9 3;".repeat(children) + "hoop 1;".repeat(4), "7", "");
            for (int hoops = 0; hoops < 16; hoops++) {
                int many = Integer.bitCount(hoops);
                CHECK.is("match(" + hoops + ", 9) by " + children, many > children ? -1 : 2 * many, x.match(hoops, 9));
                int behind = 0;
                for (int hoop = 0; hoop < 4; hoop++) {
                    boolean none = many > children || (hoops >> hoop & 1) == 0;
                    CHECK.is("matched(" + hoops + ", 9, " + hoop + ") by " + children, none ? -1 : behind, x.matched(hoops, 9, hoop));
                    behind += none ? 0 : 1;
                }
            }
        }
        CHECK.promise(20, "match, m of 0 and of 999");
        HoopHours x = Check.with(ONE, "7", "");
        CHECK.is("match(1, 0)", 7, x.match(1, 0));
        CHECK.is("match(1, 999)", 992, x.match(1, 999));
        CHECK.promise(21, "matched, m of 0 and of 999");
        CHECK.is("matched(1, 0, 0)", 0, x.matched(1, 0, 0));
        CHECK.is("matched(1, 999, 0)", 0, x.matched(1, 999, 0));
        CHECK.promise(20, "match, how far above or below is alike");
        HoopHours y = Check.with("walk 1 0;child 9 3;child 7 3;child 8 3;hoop 1;", "pace * 2", "");
        CHECK.is("match(1, 16)", 0, y.match(1, 16));
        CHECK.is("matched(1, 16, 0)", 2, y.matched(1, 16, 0));
        CHECK.is("match(1, 17)", 1, y.match(1, 17));
        CHECK.is("matched(1, 17, 0), 18 and 16", 0, y.matched(1, 17, 0));
        CHECK.is("matched(1, 15, 0), 14 and 16", 1, y.matched(1, 15, 0));
        CHECK.promise(21, "matched, hoop by hoop the least child");
        HoopHours z = Check.with("walk 1 0;child 1 3;child 2 3;child 3 3;hoop 1;hoop 1;hoop 1;", "pace * 10", "");
        CHECK.is("match(7, 20)", 20, z.match(7, 20));
        CHECK.is("matched(7, 20, 0)", 0, z.matched(7, 20, 0));
        CHECK.is("matched(7, 20, 1)", 1, z.matched(7, 20, 1));
        CHECK.is("matched(7, 20, 2)", 2, z.matched(7, 20, 2));
        CHECK.is("matched(6, 20, 1), hoop 0 is not told", 0, z.matched(6, 20, 1));
        CHECK.is("matched(6, 20, 2)", 1, z.matched(6, 20, 2));
        CHECK.is("matched(6, 20, 0)", -1, z.matched(6, 20, 0));
        CHECK.is("matched(4, 20, 2), alone", 1, z.matched(4, 20, 2));
        CHECK.promise(20, "match, each alone, from tired as now on");
        HoopHours w = Check.with("walk 1 0;walk 1 0;child 9 3;child 9 3;hoop 1;hoop 1;", "tired * 10 + 1", "give 0 0;roll;roll;");
        CHECK.is("match(3, 12): 12 by child 1, 52 by child 0", 40, w.match(3, 12));
        CHECK.is("matched(1, 12, 0)", 1, w.matched(1, 12, 0));
        CHECK.is("matched(1, 52, 0)", 0, w.matched(1, 52, 0));
    }

    private static HoopHours eightByEight(String law) {
        StringBuilder park = new StringBuilder("walk 1 0;walk 1 0;");
        for (int i = 1; i <= 8; i++) {
            park.append("child ").append(i).append(" 3;hoop ").append(i).append(';');
        }
        return Check.with(park.toString(), law, "");
    }

    private static void fitting() {
        CHECK.promise(22, "fits, the first by children, NONE");
        HoopHours x = eightByEight("pace * 8 + hoop");
        CHECK.is("fits(0) without songs", 64, x.fits(0));
        CHECK.is("fits(1) without songs", 0, x.fits(1));
        for (int child = 0; child < 8; child++) {
            for (int hoop = 0; hoop < 8; hoop++) {
                Check.songs(x, "1 " + (child * 8 + 8 + hoop) + ";");
                CHECK.is("fits(0)", 1, x.fits(0));
                CHECK.is("fits(1)", 10 * child + hoop, x.fits(1));
            }
        }
        Check.songs(x, "1 7;");
        CHECK.is("fits(0) of one minute too few", 0, x.fits(0));
        CHECK.is("fits(1) of one minute too few", -1, x.fits(1));
        Check.songs(x, "1 72;");
        CHECK.is("fits(0) of one minute too many", 0, x.fits(0));
        Check.law(x, "hoop + 1");
        Check.songs(x, "1 3;");
        CHECK.is("fits(0) of a hoop", 8, x.fits(0));
        CHECK.is("fits(1) of a hoop", 2, x.fits(1));
        CHECK.promise(22, "fits, all songs are right");
        HoopHours y = Check.with("walk 1 0;walk 1 0;walk 1 0;child 5 3;child 6 3;hoop 1;", "pace + tired * tired", "");
        Check.songs(y, "1 5;2 11;");
        CHECK.is("fits(1) of 1 5, 2 11", 0, y.fits(1));
        Check.songs(y, "2 13;");
        CHECK.is("fits(1) of 2 13", 10, y.fits(1));
        Check.songs(y, "1 5;2 13;");
        CHECK.is("fits(0) of two that are right by unlike ones", 0, y.fits(0));
        CHECK.promise(22, "fits, from not tired on, now's rain and toffees");
        HoopHours z = Check.with("walk 1 0;walk 1 0;child 5 3;hoop 1;", "tired * 20 + rain * 10 + bribe + 1", "give 0 0;roll;");
        Check.songs(z, "1 1;");
        CHECK.is("fits(0), tired of 1, counts as not", 1, z.fits(0));
        Check.work(z, "rain;bribe 0 3;");
        CHECK.is("fits(0) in rain", 0, z.fits(0));
        Check.songs(z, "1 14;");
        CHECK.is("fits(0) of 14", 1, z.fits(0));
        CHECK.promise(22, "fits, a song of 0 and of 999 minutes");
        Check.songs(z, "1 0;");
        CHECK.is("fits(0) of 0, a walk is 1 at least", 0, z.fits(0));
        HoopHours most = Check.with("walk 1 0;".repeat(8) + ONE, "99", "");
        CHECK.is("told(0), a ninth walk is a fault", 0, most.told(0));
        most = Check.with("walk 1 0;".repeat(8) + "child 1 3;hoop 1;", "99", "");
        Check.songs(most, "7 693;1 99;");
        CHECK.is("fits(0) of seven walks", 1, most.fits(0));
        Check.songs(most, "7 692;");
        CHECK.is("fits(0) of one less", 0, most.fits(0));
    }

    private static void listening() {
        CHECK.promise(23, "listen, the gate, the fits left at the worst, the first of alike ones");
        HoopHours x = eightByEight("pace * 8 + hoop");
        CHECK.is("listen(0)", 1, x.listen(0));
        CHECK.is("listen(1), each unlike all others", 1, x.listen(1));
        Check.law(x, "pace");
        CHECK.is("listen(1), eight alike", 8, x.listen(1));
        Check.law(x, "1");
        CHECK.is("listen(1), all alike", 64, x.listen(1));
        HoopHours y = Check.withPark("walk 1 0;walk 1 0;walk 1 0;child 1 3;child 2 3;child 3 3;hoop 1;hoop 1;");
        Check.law(y, "(1 - least[walk, 1]) * hoop * 10 + least[walk, 1] * pace + 1");
        CHECK.is("listen(0), minutes from gate 0 on", 2, y.listen(0));
        CHECK.is("listen(1), by child and hoop", 1, y.listen(1));
        Check.songs(y, "2 4;");
        CHECK.is("fits(0)", 1, y.fits(0));
        CHECK.is("listen(0), gate 2 is in a line", 1, y.listen(0));
        CHECK.is("listen(1), one is left", 1, y.listen(1));
        Check.songs(y, "1 1;");
        CHECK.is("listen(0), gate 1 is in a line", 2, y.listen(0));
        CHECK.is("listen(1), three fits, all unlike", 1, y.listen(1));
        Check.songs(y, "1 1;2 3;");
        CHECK.is("listen(0), NONE: no such gate", -1, y.listen(0));
        CHECK.is("listen(1), NONE: no such gate", -1, y.listen(1));
        Check.songs(y, "2 999;");
        CHECK.is("listen(0), no fits", 1, y.listen(0));
        CHECK.is("listen(1), no fits", 0, y.listen(1));
        CHECK.promise(23, "listen, gates 1 to walks less 1");
        for (int walks = 0; walks <= 8; walks++) {
            HoopHours z = Check.with("walk 1 0;".repeat(walks) + "child 1 3;child 2 3;hoop 1;", "pace", "");
            CHECK.is("listen(0) by " + walks + " walks", walks < 2 ? -1 : 1, z.listen(0));
            CHECK.is("listen(1) by " + walks + " walks", walks < 2 ? -1 : 1, z.listen(1));
        }
        HoopHours last = Check.with("walk 1 0;".repeat(8) + "child 1 3;child 2 3;hoop 1;", "walk / 6 * pace + 1", "");
        CHECK.is("listen(0), unlike at gate 7 alone", 7, last.listen(0));
        CHECK.is("listen(1)", 1, last.listen(1));
        HoopHours behind = Check.with("walk 1 0;".repeat(8) + "child 1 3;child 2 3;hoop 1;", "walk / 7 * pace + 1", "");
        CHECK.is("listen(0), unlike behind gate 7 alone", 1, behind.listen(0));
        CHECK.is("listen(1)", 2, behind.listen(1));
    }

    private static void fractions() {
        CHECK.promise(24, "safe, in least terms, no walk told, falls of 0 and of 16");
        HoopHours x = Check.withPark("walk 1 0;walk 1 16;walk 1 1;walk 1 15;walk 1 8;walk 1 12;walk 1 6;walk 1 10;");
        long[][] due = {{0, 1, 1}, {1, 1, 1}, {2, 0, 1}, {3, 0, 1}, {4, 15, 16}, {8, 1, 16}, {12, 15, 256}, {16, 1, 2}, {32, 1, 4},
            {48, 1, 8}, {64, 5, 8}, {128, 3, 8}, {192, 15, 64}, {255, 0, 1}, {253, 15L * 5 * 3, 16L * 16 * 2 * 4 * 8 * 8}};
        for (long[] row : due) {
            CHECK.is("safe(" + row[0] + ", 0)", row[1], x.safe((int) row[0], 0));
            CHECK.is("safe(" + row[0] + ", 1)", row[2], x.safe((int) row[0], 1));
        }
        HoopHours odd = Check.withPark("walk 1 1;".repeat(8));
        CHECK.is("safe(255, 0)", 2562890625L, odd.safe(255, 0));
        CHECK.is("safe(255, 1), more than 32 bits", 4294967296L, odd.safe(255, 1));
        CHECK.promise(25, "mean, in least terms, of 0 rounds, of 99");
        CHECK.is("mean(0, 0)", 0, x.mean(0, 0));
        CHECK.is("mean(0, 1)", 1, x.mean(0, 1));
        CHECK.is("mean(1, 0) of 68 by 16", 17, x.mean(1, 0));
        CHECK.is("mean(1, 1) of 68 by 16", 4, x.mean(1, 1));
        CHECK.is("mean(4, 0)", 17, x.mean(4, 0));
        CHECK.is("mean(4, 1)", 1, x.mean(4, 1));
        HoopHours all = Check.withPark("walk 1 16;".repeat(8));
        CHECK.is("mean(99, 0) of all that fall", 792, all.mean(99, 0));
        CHECK.is("mean(99, 1) of all that fall", 1, all.mean(99, 1));
        CHECK.is("mean(99, 0) of one by 16 each", 99, odd.mean(99, 0));
        CHECK.is("mean(99, 1) of one by 16 each", 2, odd.mean(99, 1));
        CHECK.is("mean(1, 0) of no falls", 0, Check.withPark("walk 1 0;").mean(1, 0));
        CHECK.is("mean(1, 1) of no falls", 1, Check.withPark("walk 1 0;").mean(1, 1));
        CHECK.promise(26, "stands, in least terms, q of 0 and 16, n of 0 and 12");
        long[][] stands = {{0, 0, 1, 1}, {16, 0, 1, 1}, {16, 1, 0, 1}, {16, 12, 0, 1}, {0, 12, 1, 1}, {1, 12, 129746337890625L, 281474976710656L},
            {15, 12, 1, 281474976710656L}, {14, 12, 1, 68719476736L}, {8, 12, 1, 4096}, {4, 2, 9, 16}, {5, 1, 11, 16}};
        for (long[] row : stands) {
            CHECK.is("stands(" + row[0] + ", " + row[1] + ", 0)", row[2], x.stands((int) row[0], (int) row[1], 0));
            CHECK.is("stands(" + row[0] + ", " + row[1] + ", 1)", row[3], x.stands((int) row[0], (int) row[1], 1));
        }
    }

    private static void nannies() {
        CHECK.promise(27, "cover, as few gates as can be, the least bits; the last walk ends at gate 0");
        HoopHours one = Check.withPark("walk 1 5;");
        CHECK.is("cover(0) of one walk", 0, one.cover(0));
        CHECK.is("cover(1) of one walk", 1, one.cover(1));
        HoopHours two = Check.withPark("walk 1 5;walk 1 6;");
        for (int walks = 1; walks < 4; walks++) {
            CHECK.is("cover(" + walks + ") of two walks", 1, two.cover(walks));
        }
        HoopHours four = Check.withPark("walk 1 5;walk 1 6;walk 1 7;walk 1 8;");
        int[] due = {0, 1, 2, 2, 4, 5, 4, 5, 1, 1, 3, 3, 8, 5, 5, 5};
        for (int walks = 0; walks < 16; walks++) {
            CHECK.is("cover(" + walks + ") of four walks", due[walks], four.cover(walks));
        }
        HoopHours eight = Check.withPark("walk 1 1;".repeat(8));
        CHECK.is("cover(129), the last and the first", 1, eight.cover(129));
        CHECK.is("cover(128), the last", 1, eight.cover(128));
        CHECK.is("cover(192), the last two", 128, eight.cover(192));
        CHECK.promise(28, "watch, of no gate, of all, NONE: there are not as many");
        for (int n = 0; n <= 8; n++) {
            CHECK.is("watch(" + n + ", 0) of eight walks", new int[] {0, 1, 5, 21, 85, 87, 95, 127, 255}[n], eight.watch(n, 0));
            CHECK.is("watch(" + n + ", 1) of eight walks", Math.min(8, 2 * n), eight.watch(n, 1));
            CHECK.is("watch(" + n + ", 0) of one walk", n < 2 ? n : -1, one.watch(n, 0));
            CHECK.is("watch(" + n + ", 1) of one walk", n < 2 ? 5 * n : -1, one.watch(n, 1));
            CHECK.is("watch(" + n + ", 0) of four walks", new int[] {0, 8, 5, 7, 15, -1, -1, -1, -1}[n], four.watch(n, 0));
            CHECK.is("watch(" + n + ", 1) of four walks", new int[] {0, 15, 26, 26, 26, -1, -1, -1, -1}[n], four.watch(n, 1));
        }
    }

    /** Who loses gives nothing, who wins one toffee, unless the other one would give two for it. */
    private static void gifts() {
        CHECK.promise(29, "toffee, k of 0 to 9, none that rests");
        HoopHours x = Check.withPark("hoop 1;hoop 2;hoop 3;hoop 4;hoop 5;hoop 6;hoop 8;hoop 9;");
        for (int hoop = 0; hoop < 8; hoop++) {
            int weight = x.hoop(hoop, 0);
            for (int k = 0; k <= 9; k++) {
                int[] due = k == 0 ? new int[] {1, 0, 0}
                    : weight == 1 ? new int[] {3, 0, 0}
                    : k == 1 || weight == 2 ? new int[] {2, 1, weight - 1}
                    : new int[] {0, -1, 0};
                for (int what = 0; what < 3; what++) {
                    CHECK.is("toffee(" + hoop + ", " + k + ", " + what + ")", due[what], x.toffee(hoop, k, what));
                }
            }
        }
    }

    private static void shares() {
        CHECK.promise(30, "share, all, if they are no more than n; else levelled");
        HoopHours x = Check.withPark("child 1 7;child 1 10;child 1 4;");
        int[][] due = {{20, 7, 9, 4}, {21, 7, 10, 4}, {22, 7, 10, 4}, {99, 7, 10, 4}, {19, 7, 8, 4}, {18, 7, 7, 4}, {17, 6, 6, 4}, {16, 6, 6, 4},
            {15, 5, 5, 4}, {14, 5, 5, 4}, {13, 4, 4, 4}, {12, 4, 4, 4}, {11, 3, 3, 3}, {9, 3, 3, 3}, {8, 2, 2, 2}, {3, 1, 1, 1}, {2, 0, 0, 0},
            {1, 0, 0, 0}, {0, 0, 0, 0}};
        for (int[] row : due) {
            for (int child = 0; child < 3; child++) {
                CHECK.is("share(" + child + ", 7, " + row[0] + ")", row[child + 1], x.share(child, 7, row[0]));
            }
        }
        CHECK.promise(30, "share, 0, if it is none of them");
        CHECK.is("share(0, 6, 99)", 0, x.share(0, 6, 99));
        CHECK.is("share(1, 6, 99)", 10, x.share(1, 6, 99));
        CHECK.is("share(2, 6, 99)", 4, x.share(2, 6, 99));
        CHECK.is("share(0, 0, 99)", 0, x.share(0, 0, 99));
        CHECK.is("share(0, 1, 7)", 7, x.share(0, 1, 7));
        CHECK.is("share(0, 1, 6)", 6, x.share(0, 1, 6));
        HoopHours y = Check.withPark("child 1 14;".repeat(8));
        CHECK.is("share(0, 255, 99)", 12, y.share(0, 255, 99));
        CHECK.is("share(0, 255, 96)", 12, y.share(0, 255, 96));
        CHECK.is("share(0, 255, 95)", 11, y.share(0, 255, 95));
        CHECK.is("share(0, 127, 98)", 14, y.share(0, 127, 98));
        CHECK.is("share(0, 127, 97)", 13, y.share(0, 127, 97));
        CHECK.is("share(7, 127, 98)", 0, y.share(7, 127, 98));
    }

    private static void quickestSlowestDebtor() {
        CHECK.promise(31, "quickest, of alike ones the first, NONE both without children");
        HoopHours x = Check.with("walk 1 0;child 5 3;child 4 3;child 4 3;child 6 3;hoop 1;hoop 2;", "pace * weight", "");
        CHECK.is("quickest(0, 0)", 1, x.quickest(0, 0));
        CHECK.is("quickest(0, 1)", 4, x.quickest(0, 1));
        CHECK.is("quickest(1, 1)", 8, x.quickest(1, 1));
        HoopHours noChild = Check.withPark("walk 1 0;hoop 1;");
        CHECK.is("quickest(0, 0)", -1, noChild.quickest(0, 0));
        CHECK.is("quickest(0, 1)", -1, noChild.quickest(0, 1));
        HoopHours noWalk = Check.withPark("child 1 3;child 1 3;hoop 1;");
        CHECK.is("quickest(0, 0) without walks", 0, noWalk.quickest(0, 0));
        CHECK.is("quickest(0, 1) without walks", 0, noWalk.quickest(0, 1));
        CHECK.promise(36, "slowest, of alike ones the first, NONE both if none is given");
        CHECK.is("slowest(0)", -1, x.slowest(0));
        CHECK.is("slowest(1)", -1, x.slowest(1));
        Check.work(x, "give 1 1;");
        CHECK.is("slowest(0), one is given", 1, x.slowest(0));
        CHECK.is("slowest(1), one is given", 8, x.slowest(1));
        Check.law(x, "pace");
        Check.work(x, "give 0 2;");
        CHECK.is("slowest(0), 4 and 4", 0, x.slowest(0));
        Check.work(x, "give 1 3;");
        CHECK.is("slowest(0), 4 and 6", 1, x.slowest(0));
        Check.work(noWalk, "give 0 1;");
        CHECK.is("slowest(0) without walks", 0, noWalk.slowest(0));
        CHECK.is("slowest(1) without walks", 0, noWalk.slowest(1));
        CHECK.promise(32, "debtor, of alike ones the first, NONE both if nothing is owed");
        HoopHours y = Check.with("walk 1 0;child 1 3;child 1 3;child 1 3;hoop 1;long 5;fine 2;", "6", "give 0 2;");
        CHECK.is("debtor(0)", -1, y.debtor(0));
        CHECK.is("debtor(1)", -1, y.debtor(1));
        Check.work(y, "roll;");
        CHECK.is("debtor(0)", 2, y.debtor(0));
        CHECK.is("debtor(1)", 2, y.debtor(1));
        Check.work(y, "give 0 1;roll;");
        CHECK.is("debtor(0), 2 and 2", 1, y.debtor(0));
        Check.work(y, "give 0 2;roll;");
        CHECK.is("debtor(0), 2 and 4", 2, y.debtor(0));
        CHECK.is("debtor(1), 2 and 4", 4, y.debtor(1));
        CHECK.is("told(9), fines in all", 6, y.told(9));
    }

    private static void bowlsLoadIdle() {
        CHECK.promise(34, "bowls, of 0 rolls, of 200");
        HoopHours x = Check.with("walk 1 0;walk 1 0;child 1 3;child 1 3;child 1 3;hoop 4;hoop 9;hoop 1;", "", "give 0 0;give 1 1;give 2 0;");
        int[] ofZero = {0, 1, 2, 2, 2, 3, 4, 5, 6, 6};
        for (int n = 0; n < ofZero.length; n++) {
            CHECK.is("bowls(0, " + n + ")", ofZero[n], x.bowls(0, n));
            CHECK.is("bowls(1, " + n + ")", n - ofZero[n], x.bowls(1, n));
            CHECK.is("bowls(2, " + n + ")", 0, x.bowls(2, n));
        }
        CHECK.is("bowls(0, 200)", 134, x.bowls(0, 200));
        CHECK.is("bowls(1, 200)", 66, x.bowls(1, 200));
        HoopHours noWalk = Check.with("child 1 3;hoop 1;", "", "give 0 0;");
        CHECK.is("bowls(0, 200) without walks", 0, noWalk.bowls(0, 200));
        CHECK.is("bowls(0, 200) without hoops", 0, Check.withPark("walk 1 0;child 1 3;").bowls(0, 200));
        CHECK.is("bowls(0, 200), given to nobody", 0, Check.withPark(ONE).bowls(0, 200));
        CHECK.promise(35, "load, of no hoops, of some");
        CHECK.is("load(0)", 5, x.load(0));
        CHECK.is("load(1)", 9, x.load(1));
        CHECK.is("load(2)", 0, x.load(2));
        HoopHours most = Check.with("child 1 3;" + "hoop 9;".repeat(8), "",
            "give 0 0;give 1 0;give 2 0;give 3 0;give 4 0;give 5 0;give 6 0;give 7 0;");
        CHECK.is("load(0) of all eight", 72, most.load(0));
        CHECK.promise(11, "child, the hoops it has");
        CHECK.is("child(0, 5) of all eight", 255, most.child(0, 5));
        CHECK.is("child(0, 5)", 5, x.child(0, 5));
        CHECK.promise(33, "idle, none, some, all");
        CHECK.is("idle()", 4, x.idle());
        CHECK.is("idle(), none", 0, most.idle());
        CHECK.is("idle(), all eight", 255, Check.withPark("child 1 3;".repeat(8) + "hoop 1;").idle());
        CHECK.is("idle(), all without hoops", 3, Check.withPark("child 1 3;child 1 3;").idle());
    }

    private static void lessThanBefore() {
        HoopHours x = Check.with("walk 20 16;".repeat(8) + "child 1 14;".repeat(8) + "hoop 9;".repeat(8) + "long 1;fine 20;", "",
            "give 0 0;give 1 1;give 2 2;give 3 3;give 4 4;give 5 5;give 6 6;give 7 7;again 30[roll;];");
        Check.songs(x, "1 9;2 9;7 9;");
        x.match(255, 9);
        Check.park(x, "walk 6 1;walk 3 2;child 6 3;child 3 4;hoop 1;");
        CHECK.promise(25, "mean, of a park with fewer walks than before");
        CHECK.is("mean(16, 0)", 3, x.mean(16, 0));
        CHECK.promise(24, "safe, of a park with fewer walks than before");
        CHECK.is("safe(3, 0)", 105, x.safe(3, 0));
        CHECK.is("safe(3, 1)", 128, x.safe(3, 1));
        CHECK.promise(28, "watch, of a park with fewer walks than before");
        CHECK.is("watch(1, 0)", 1, x.watch(1, 0));
        CHECK.is("watch(1, 1)", 3, x.watch(1, 1));
        CHECK.is("watch(3, 0)", -1, x.watch(3, 0));
        CHECK.promise(27, "cover, of a park with fewer walks than before");
        CHECK.is("cover(3)", 1, x.cover(3));
        CHECK.promise(30, "share, of a park with fewer children than before");
        CHECK.is("share(0, 3, 99)", 3, x.share(0, 3, 99));
        CHECK.is("share(1, 3, 99)", 4, x.share(1, 3, 99));
        CHECK.is("share(1, 3, 6)", 3, x.share(1, 3, 6));
        CHECK.promise(33, "idle, of a park with fewer children than before");
        CHECK.is("idle()", 3, x.idle());
        CHECK.promise(31, "quickest, of a park with fewer children than before");
        CHECK.is("quickest(0, 0)", 0, x.quickest(0, 0));
        CHECK.is("quickest(0, 1)", 7 + 5, x.quickest(0, 1));
        CHECK.promise(32, "debtor, of a park with fewer children than before");
        CHECK.is("debtor(0)", -1, x.debtor(0));
        CHECK.promise(36, "slowest, of a park with fewer hoops than before");
        CHECK.is("slowest(0)", -1, x.slowest(0));
        CHECK.promise(35, "load, of a park with fewer hoops than before");
        CHECK.is("load(1)", 0, x.load(1));
        CHECK.promise(22, "fits, of a park with fewer children and hoops than before");
        CHECK.is("fits(0)", 2, x.fits(0));
        CHECK.is("listen(1)", 1, x.listen(1));
        CHECK.promise(20, "match, of a park with fewer children and hoops than before");
        CHECK.is("match(1, 12)", 0, x.match(1, 12));
        CHECK.is("matched(1, 12, 0)", 0, x.matched(1, 12, 0));
        CHECK.is("match(1, 20)", 1, x.match(1, 20));
        CHECK.promise(15, "lasts, of a park with fewer walks than before");
        CHECK.is("lasts(0, 1)", 13 + 8, x.lasts(0, 1));
        Check.work(x, "give 0 1;roll;roll;");
        CHECK.promise(5, "work, of a park with fewer walks and hoops than before");
        CHECK.is("hoop(0, 2)", 13 + 8, x.hoop(0, 2));
        CHECK.is("told(6)", 1, x.told(6));
        CHECK.is("told(9), neither long nor fine", 0, x.told(9));
        Check.law(x, "30");
        Check.work(x, "roll;roll;");
        CHECK.is("told(9), 60 is not too long", 0, x.told(9));
        Check.law(x, "31");
        Check.work(x, "roll;roll;");
        CHECK.is("told(9), 62 is, a fine of 5", 5, x.told(9));
    }

    private static void nothingThere() {
        HoopHours[] all = {new HoopHours(), Check.withPark("long 5;"), Check.withPark("child 1 3;hoop 1;"), Check.withPark("walk 1 0;hoop 1;"),
            Check.withPark("walk 1 0;child 1 3;")};
        for (HoopHours x : all) {
            CHECK.promise(16, "ahead, where nothing can be rolled");
            ahead(x, 200, 0, 0, 0, 0, 0);
            CHECK.promise(18, "hour, where nothing can be rolled");
            CHECK.is("hour(0)", -1, x.hour(0));
            CHECK.promise(19, "late, where nothing can be rolled");
            CHECK.is("late()", -1, x.late());
            CHECK.promise(20, "match, of no hoops");
            CHECK.is("match(0, 0)", 0, x.match(0, 0));
            CHECK.promise(24, "safe, of no walks");
            CHECK.is("safe(0, 0)", 1, x.safe(0, 0));
            CHECK.is("safe(0, 1)", 1, x.safe(0, 1));
            CHECK.promise(27, "cover, of no walks");
            CHECK.is("cover(0)", 0, x.cover(0));
            CHECK.promise(28, "watch, of no gates");
            CHECK.is("watch(0, 0)", 0, x.watch(0, 0));
            CHECK.is("watch(0, 1)", 0, x.watch(0, 1));
            CHECK.promise(32, "debtor, nothing is owed");
            CHECK.is("debtor(0), debtor(1)", -2, x.debtor(0) + x.debtor(1));
            CHECK.promise(36, "slowest, none is given");
            CHECK.is("slowest(0), slowest(1)", -2, x.slowest(0) + x.slowest(1));
            CHECK.promise(37, "days, where nothing can be rolled");
            for (int what = 0; what < 4; what++) {
                CHECK.is("days(1, 200, 16, " + what + ")", 0, x.days(1, 200, 16, what));
            }
            CHECK.promise(38, "span, where nothing can be rolled");
            CHECK.is("span(1, 20, 200, 16, 0)", 0, x.span(1, 20, 200, 16, 0));
            CHECK.is("span(1, 20, 200, 16, 1)", 0, x.span(1, 20, 200, 16, 1));
            CHECK.is("span(1, 20, 200, 16, 2)", 20, x.span(1, 20, 200, 16, 2));
        }
        CHECK.promise(22, "fits, without children, without hoops, without walks");
        CHECK.is("fits(0) without walks", 1, all[2].fits(0));
        CHECK.is("fits(1) without walks", 0, all[2].fits(1));
        CHECK.is("fits(0) without children", 0, all[3].fits(0));
        CHECK.is("fits(1) without children", -1, all[3].fits(1));
        CHECK.is("fits(0) without hoops", 0, all[4].fits(0));
        CHECK.promise(20, "match, without children");
        CHECK.is("match(1, 0)", -1, all[3].match(1, 0));
        CHECK.is("matched(1, 0, 0)", -1, all[3].matched(1, 0, 0));
        CHECK.promise(17, "due, without children or walks");
        CHECK.is("due(0) without children", 0, all[3].due(0));
        CHECK.is("due(0) without walks", 0, all[2].due(0));
        CHECK.promise(15, "lasts, without walks");
        CHECK.is("lasts(0, 0)", 0, all[2].lasts(0, 0));
    }

    /** MINUTES, falls, rolls in rain and fines by draws in numbers of 64 bits; the law is 4 and 7 more in rain. */
    private static int[] drawn(int seed, int rolls, int q, int[] falls, int tooLong) {
        int[] due = new int[4];
        long state = seed & 0xffffffffL;
        int hour = 0;
        for (int i = 0; i < rolls; i++) {
            state = (state * 1103515245L + 12345L) % 4294967296L;
            int rain = state / 65536 % 32768 % 16 < q ? 1 : 0;
            state = (state * 1103515245L + 12345L) % 4294967296L;
            int fall = state / 65536 % 32768 % 16 < falls[i % falls.length] ? 1 : 0;
            int took = 4 + 7 * rain + 5 * fall;
            hour += took;
            due[0] += took;
            due[1] += fall;
            due[2] += rain;
            if (i % falls.length == falls.length - 1) {
                due[3] += hour > tooLong ? 3 : 0;
                hour = 0;
            }
        }
        return due;
    }

    private static void days() {
        CHECK.promise(37, "days, 1 and 200 rolls, q of 0 and 16, falls of 0 and 16");
        int[][] parks = {{0}, {16}, {1}, {15}, {0, 16}, {16, 7, 0}, {3, 9, 14, 8}};
        int[] seeds = {0, 1, -1, 12345, Integer.MAX_VALUE, Integer.MIN_VALUE};
        for (int[] falls : parks) {
            StringBuilder park = new StringBuilder("child 9 3;hoop 1;long 30;fine 3;");
            for (int fall : falls) {
                park.append("walk 1 ").append(fall).append(';');
            }
            HoopHours x = Check.with(park.toString(), "4 + 7 * rain", "give 0 0;rain;");
            int asked = 0;
            for (int rolls : new int[] {1, 2, 200}) {
                for (int q : new int[] {0, 1, 8, 15, 16}) {
                    int seed = seeds[asked++ % seeds.length];
                    int[] due = drawn(seed, rolls, q, falls, 30);
                    for (int what = 0; what < 4; what++) {
                        CHECK.is("days(" + seed + ", " + rolls + ", " + q + ", " + what + ") of " + park, due[what], x.days(seed, rolls, q, what));
                    }
                }
            }
            CHECK.is("told(8), the rain is as before", 1, x.told(8));
        }
        CHECK.promise(37, "days, a fall is 5 minutes more than the law's 99");
        HoopHours most = Check.with("walk 1 16;child 9 3;hoop 1;long 103;fine 3;", "999", "give 0 0;");
        CHECK.is("days(1, 1, 0, 0)", 104, most.days(1, 1, 0, 0));
        CHECK.is("days(1, 1, 0, 3), 104 is above 103", 3, most.days(1, 1, 0, 3));
        most = Check.with("walk 1 16;child 9 3;hoop 1;long 104;fine 3;", "999", "give 0 0;");
        CHECK.is("days(1, 1, 0, 3), 104 is not above 104", 0, most.days(1, 1, 0, 3));
        CHECK.promise(37, "days, from within an hour on");
        HoopHours begun = Check.with("walk 1 0;walk 1 16;child 9 3;hoop 1;long 12;fine 3;", "4", "give 0 0;roll;");
        CHECK.is("days(1, 1, 0, 1), it is at the second walk", 1, begun.days(1, 1, 0, 1));
        CHECK.is("days(1, 1, 0, 3), 4 and 9", 3, begun.days(1, 1, 0, 3));
        CHECK.is("days(1, 2, 0, 1)", 1, begun.days(1, 2, 0, 1));
    }

    private static void spans() {
        CHECK.promise(38, "span, of 1 and of 20 seeds, seeds that wrap round");
        HoopHours x = Check.with("walk 1 1;walk 1 0;child 9 3;hoop 1;", "4 + 7 * rain", "give 0 0;");
        int[] falls = {1, 0};
        for (int seed : new int[] {0, -10, Integer.MAX_VALUE - 9, Integer.MAX_VALUE, 77777}) {
            for (int many : new int[] {1, 2, 20}) {
                int[] due = {Integer.MAX_VALUE, 0, 0};
                for (int i = 0; i < many; i++) {
                    int[] one = drawn(seed + i, 9, 6, falls, 60);
                    due[0] = Math.min(due[0], one[0]);
                    due[1] = Math.max(due[1], one[0]);
                    due[2] += one[1] == 0 ? 1 : 0;
                }
                for (int what = 0; what < 3; what++) {
                    CHECK.is("span(" + seed + ", " + many + ", 9, 6, " + what + ")", due[what], x.span(seed, many, 9, 6, what));
                }
            }
        }
        CHECK.promise(38, "span, by how many nothing falls: all, none");
        HoopHours dry = Check.with(ONE, "", "give 0 0;");
        CHECK.is("span(3, 20, 200, 16, 2)", 20, dry.span(3, 20, 200, 16, 2));
        HoopHours wet = Check.with("walk 1 16;child 9 3;hoop 1;", "", "give 0 0;");
        CHECK.is("span(3, 20, 1, 16, 2)", 0, wet.span(3, 20, 1, 16, 2));
    }
}
