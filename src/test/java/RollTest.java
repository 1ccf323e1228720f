/** Promises 5 and 9 to 12: what work does, and what is told of it. */
public final class RollTest {
    private static final String PARK = "walk 2 4;walk 5 0;walk 3 16;child 3 7;child 6 10;child 1 4;"
        + "hoop 2;hoop 5;long 20;fine 4;";
    private static final Check CHECK = new Check();

    public static void main(String[] args) {
        giving();
        rainAndRest();
        bribing();
        rolling();
        endsOfHours();
        childrenWithinAnHour();
        refusedRolls();
        loops();
        mostSteps();
        manyDays();
        toldOfAll();
        elements();
        CHECK.end();
    }

    private static void giving() {
        CHECK.promise(5, "work, give");
        HoopHours x = Check.withPark(PARK);
        CHECK.is("give", 3, Check.work(x, "give 0 1;give 1 1;give 1 2;"));
        CHECK.is("hoop(0, 1)", 1, x.hoop(0, 1));
        CHECK.is("hoop(1, 1)", 2, x.hoop(1, 1));
        CHECK.is("the same again", 0, Check.work(x, "give 1 2;"));
        CHECK.is("told(11)", 1, x.told(11));
    }

    private static void rainAndRest() {
        CHECK.promise(5, "work, rain and rest");
        HoopHours x = Check.withPark(PARK);
        Check.work(x, "rain;");
        CHECK.is("told(8)", 1, x.told(8));
        Check.work(x, "rain;");
        CHECK.is("told(8)", 0, x.told(8));
        HoopHours sweet = Check.with(PARK, "", "give 0 0;roll;again 11 [bribe 0 9;];");
        CHECK.is("rain while child 0 has 99 toffees", 1, Check.work(sweet, "rain;"));
        CHECK.is("child 0 is tired all the same", 1, sweet.child(0, 2));
        CHECK.is("rest of one who is not tired", 0, Check.work(x, "rest 0;"));
        CHECK.is("told(11)", 1, x.told(11));
        Check.work(x, "give 0 0;roll;roll;");
        CHECK.is("child(0, 2)", 2, x.child(0, 2));
        CHECK.is("rest", 1, Check.work(x, "rest 0;"));
        CHECK.is("child(0, 2)", 0, x.child(0, 2));
    }

    private static void bribing() {
        CHECK.promise(5, "work, bribe");
        HoopHours x = Check.withPark(PARK);
        Check.work(x, "bribe 1 9;bribe 1 1;");
        CHECK.is("child(1, 3)", 10, x.child(1, 3));
        CHECK.is("child(0, 3)", 0, x.child(0, 3));
        CHECK.is("up to 99", 10, Check.work(x, "again 10 [bribe 1 9;];"));
        CHECK.is("child(1, 3)", 99, x.child(1, 3));
        CHECK.is("at 99", 0, Check.work(x, "bribe 1 1;"));
        CHECK.is("told(11)", 1, x.told(11));
        x = Check.withPark(PARK);
        CHECK.is("twelve of nine", 11, Check.work(x, "again 12 [bribe 0 9;];"));
        CHECK.is("child(0, 3)", 99, x.child(0, 3));
    }

    private static void rolling() {
        CHECK.promise(5, "work, roll");
        HoopHours x = Check.with(PARK, "", "give 0 0;roll;");
        CHECK.is("told(4)", 1, x.told(4));
        CHECK.is("told(5)", 6, x.told(5));
        CHECK.is("told(7)", 6, x.told(7));
        CHECK.is("child(0, 2)", 1, x.child(0, 2));
        CHECK.is("hoop(0, 2), it is not over", 0, x.hoop(0, 2));
        Check.work(x, "roll;");
        CHECK.is("told(5): 10, 2, 1 more", 19, x.told(5));
        Check.work(x, "roll;");
        CHECK.is("hoop(0, 2): 6, 2, 2 more", 29, x.hoop(0, 2));
        CHECK.is("told(3)", 1, x.told(3));
        CHECK.is("told(4)", 0, x.told(4));
        CHECK.is("told(5)", 0, x.told(5));
        CHECK.is("told(7)", 29, x.told(7));
        CHECK.is("told(6)", 0, x.told(6));
        CHECK.is("child(0, 4)", 4, x.child(0, 4));
        CHECK.is("told(12)", 1, x.told(12));
        x = Check.with("walk 1 0;child 9 3;hoop 1;", "tired", "give 0 0;again 60 [roll;];");
        Check.work(x, "again 39 [roll;];");
        CHECK.is("tired of 99", 99, x.child(0, 2));
        Check.work(x, "roll;");
        CHECK.is("no more than 99", 99, x.child(0, 2));
        CHECK.is("hoop(0, 2)", 99, x.hoop(0, 2));
    }

    private static void endsOfHours() {
        CHECK.promise(5, "work, hours and days");
        HoopHours x = Check.with(PARK, "bribe + 3", "give 0 1;give 1 0;bribe 1 3;bribe 0 5;bribe 2 2;roll;roll;roll;");
        CHECK.is("hoop(0, 2)", 18, x.hoop(0, 2));
        CHECK.is("toffees of child 1 are eaten", 0, x.child(1, 3));
        CHECK.is("toffees of child 0 are not", 5, x.child(0, 3));
        CHECK.is("told(12)", 0, x.told(12));
        Check.work(x, "roll;roll;");
        CHECK.is("toffees within the hour", 5, x.child(0, 3));
        CHECK.is("told(5)", 16, x.told(5));
        CHECK.is("told(7)", 34, x.told(7));
        Check.work(x, "roll;");
        CHECK.is("told(3)", 0, x.told(3));
        CHECK.is("told(6)", 1, x.told(6));
        CHECK.is("told(7)", 0, x.told(7));
        CHECK.is("hoop(1, 2)", 24, x.hoop(1, 2));
        CHECK.is("toffees are eaten though it was too long", 0, x.child(0, 3));
        CHECK.is("child(0, 4)", 4, x.child(0, 4));
        CHECK.is("child(1, 4)", 0, x.child(1, 4));
        Check.work(x, "roll;roll;roll;");
        CHECK.is("hoop(0, 2) of the latest time", 9, x.hoop(0, 2));
        CHECK.is("child(2, 3)", 2, x.child(2, 3));
    }

    private static void childrenWithinAnHour() {
        CHECK.promise(5, "work, a hoop given within its hour");
        HoopHours x = Check.with(PARK, "", "give 0 0;bribe 0 2;bribe 1 2;roll;roll;give 0 1;roll;");
        CHECK.is("hoop(0, 2): 6, 13, 3 and 2", 24, x.hoop(0, 2));
        CHECK.is("the last one owes", 4, x.child(1, 4));
        CHECK.is("the first one does not", 0, x.child(0, 4));
        CHECK.is("toffees of the last one", 0, x.child(1, 3));
        CHECK.is("toffees of the first one", 2, x.child(0, 3));
        CHECK.is("child(0, 2)", 2, x.child(0, 2));
        CHECK.is("child(1, 2)", 1, x.child(1, 2));
    }

    private static void refusedRolls() {
        CHECK.promise(5, "work, rolls that are refused");
        HoopHours x = Check.withPark(PARK);
        CHECK.is("given to nobody", 1, Check.work(x, "give 1 0;roll;roll;"));
        CHECK.is("told(11)", 2, x.told(11));
        CHECK.is("told(4)", 0, x.told(4));
        x = Check.withPark("child 1 3;hoop 1;");
        CHECK.is("without walks", 1, Check.work(x, "give 0 0;roll;"));
        CHECK.is("told(11)", 1, x.told(11));
        x = Check.withPark("walk 1 1;child 1 3;");
        CHECK.is("without hoops", 0, Check.work(x, "roll;"));
        CHECK.is("told(11)", 1, x.told(11));
    }

    private static void loops() {
        CHECK.promise(5, "work, again");
        HoopHours x = Check.withPark(PARK);
        CHECK.is("again", 7, Check.work(x, "again 3 [bribe 0 1;rain;];bribe 1 2;"));
        CHECK.is("child(0, 3)", 3, x.child(0, 3));
        CHECK.is("told(8)", 1, x.told(8));
        CHECK.is("within one another", 13, Check.work(x, "again 2 [bribe 2 1;again 3[bribe 2 1;];bribe 2 1;];again 3 [bribe 2 1;];"));
        CHECK.is("child(2, 3)", 13, x.child(2, 3));
        CHECK.is("again 0", 1, Check.work(x, "again 0 [bribe 1 9;again 5 [bribe 1 9;];];bribe 1 1;"));
        CHECK.is("child(1, 3)", 3, x.child(1, 3));
    }

    private static void mostSteps() {
        CHECK.promise(5, "work, 200 steps");
        HoopHours x = Check.withPark("walk 1 0;child 9 3;hoop 1;");
        CHECK.is("one again and 199", 199, Check.work(x, "again 60 [rain;rain;rain;rain;];"));
        CHECK.is("told(8)", 1, x.told(8));
        CHECK.is("an again each time", 159, Check.work(x, "again 60 [again 2 [rain;rain;];];"));
        CHECK.is("refused ones, too", 0, Check.work(x, "again 60 [rest 0;rest 0;rest 0;];again 60 [rest 0;];rain;"));
        CHECK.is("told(11)", 198, x.told(11));
        CHECK.is("the last ones within", 1, Check.work(x, "again 60 [again 60 [];again 60 [];again 60 [];];rain;"));
        CHECK.is("left out behind", 0, Check.work(x, "again 60 [again 60 [];again 60 [];again 60 [];again 60 [];];rain;"));
        CHECK.is("exactly 200", 198, Check.work(x, "again 60 [rain;rain;rain;];again 18 [rain;];"));
        CHECK.is("one is left out", 198, Check.work(x, "again 60 [rain;rain;rain;];again 18 [rain;];rain;"));
    }

    private static void manyDays() {
        CHECK.promise(5, "work, from day 200 on");
        HoopHours x = Check.with("walk 1 0;child 9 3;hoop 1;", "1", "give 0 0;again 60 [roll;roll;roll;];");
        CHECK.is("told(6)", 180, x.told(6));
        CHECK.is("up to day 200", 20, Check.work(x, "again 60 [roll;];"));
        CHECK.is("told(6)", 200, x.told(6));
        CHECK.is("told(11)", 40, x.told(11));
        CHECK.is("ahead(3, 4), beyond day 200", 3, x.ahead(3, 4));
        CHECK.is("days beyond day 200", 7, x.days(1, 7, 0, 0));
        CHECK.is("bowls(0, 200)", 200, x.bowls(0, 200));
        CHECK.is("due(0)", 0, x.due(0));
    }

    private static void toldOfAll() {
        CHECK.promise(9, "told");
        HoopHours x = Check.with(PARK, "", "give 0 0;give 1 0;rain;rain;rain;roll;roll;roll;roll;give 1 0;");
        Check.songs(x, "2 5;");
        int[] due = {3, 3, 2, 1, 1, 12, 0, 41, 1, 4, 1, 1, 1};
        for (int what = 0; what < due.length; what++) {
            CHECK.is("told(" + what + ")", due[what], x.told(what));
        }
        CHECK.illegal("told(-1)", () -> x.told(-1));
        CHECK.illegal("told(13)", () -> x.told(13));
        HoopHours y = Check.with(PARK, "30", "give 0 0;give 1 1;again 12 [roll;];");
        CHECK.is("fines of all", 16, y.told(9));
        CHECK.is("child(0, 4)", 8, y.child(0, 4));
        CHECK.is("told(12)", 4, y.told(12));
        CHECK.is("told(6)", 2, y.told(6));
        refusedStepsAreOfTheLatestWork();
    }

    private static void refusedStepsAreOfTheLatestWork() {
        HoopHours x = Check.with(PARK, "", "rest 0;rest 1;rain;");
        CHECK.is("told(11)", 2, x.told(11));
        Check.law(x, "5");
        Check.songs(x, "1 1;");
        x.image();
        Check.work(x, "nonsense");
        CHECK.is("told(11) behind a fault", 2, x.told(11));
        x.image();
        x.image();
        x.image();
        CHECK.is("told(11) behind image()", 2, x.told(11));
        x.restore();
        CHECK.is("told(11) behind restore()", 0, x.told(11));
        Check.work(x, "rest 0;");
        CHECK.is("told(11)", 1, x.told(11));
        x.undo();
        CHECK.is("told(11) behind undo()", 0, x.told(11));
        x.restore();
        x.restore();
        Check.work(x, "rest 0;");
        CHECK.is("restore()", -1, x.restore());
        CHECK.is("told(11) behind a restore() of none", 1, x.told(11));
        Check.work(x, "rest 0;rest 0;");
        Check.park(x, "nonsense");
        CHECK.is("told(11) behind a park with a fault", 2, x.told(11));
        while (x.count(2) < 16) {
            Check.work(x, "rest 0;rest 0;rest 0;");
        }
        Check.work(x, "rain;");
        CHECK.is("told(11) behind -20", 3, x.told(11));
        Check.park(x, PARK);
        CHECK.is("told(11) behind park()", 0, x.told(11));
        CHECK.is("undo()", -1, x.undo());
    }

    private static void elements() {
        HoopHours x = Check.with(PARK, "", "give 1 2;bribe 2 7;");
        CHECK.promise(10, "walk");
        int[] lengths = {2, 5, 3};
        int[] falls = {4, 0, 16};
        for (int walk = 0; walk < 3; walk++) {
            CHECK.is("walk(" + walk + ", 0)", lengths[walk], x.walk(walk, 0));
            CHECK.is("walk(" + walk + ", 1)", falls[walk], x.walk(walk, 1));
        }
        CHECK.noSuch("walk(3, 0)", () -> x.walk(3, 0));
        CHECK.noSuch("walk(-1, 0)", () -> x.walk(-1, 0));
        CHECK.noSuch("walk(3, 9), ahead of others", () -> x.walk(3, 9));
        CHECK.illegal("walk(0, 2)", () -> x.walk(0, 2));
        CHECK.illegal("walk(0, -1)", () -> x.walk(0, -1));
        CHECK.promise(11, "child");
        int[] due = {1, 4, 0, 7, 0, 2};
        for (int what = 0; what < due.length; what++) {
            CHECK.is("child(2, " + what + ")", due[what], x.child(2, what));
        }
        CHECK.is("child(0, 5)", 0, x.child(0, 5));
        CHECK.noSuch("child(3, 0)", () -> x.child(3, 0));
        CHECK.noSuch("child(-1, 6)", () -> x.child(-1, 6));
        CHECK.illegal("child(0, 6)", () -> x.child(0, 6));
        CHECK.illegal("child(0, -1)", () -> x.child(0, -1));
        Check.work(x, "give 0 2;");
        CHECK.is("child(2, 5)", 3, x.child(2, 5));
        CHECK.promise(12, "hoop");
        CHECK.is("hoop(0, 0)", 2, x.hoop(0, 0));
        CHECK.is("hoop(1, 0)", 5, x.hoop(1, 0));
        CHECK.is("hoop(1, 1)", 2, x.hoop(1, 1));
        CHECK.is("hoop(1, 2)", 0, x.hoop(1, 2));
        CHECK.noSuch("hoop(2, 0)", () -> x.hoop(2, 0));
        CHECK.noSuch("hoop(-1, 3)", () -> x.hoop(-1, 3));
        CHECK.illegal("hoop(0, 3)", () -> x.hoop(0, 3));
        CHECK.illegal("hoop(0, -1)", () -> x.hoop(0, -1));
        HoopHours fresh = Check.withPark(PARK);
        CHECK.is("hoop(0, 1), of nobody", -1, fresh.hoop(0, 1));
    }
}
