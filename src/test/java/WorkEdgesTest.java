import java.util.List;

/** Promises 1, 3, 5, 8 to 12 and 39 to 42: each boundary of what work does, of undoing it, and of images. */
public final class WorkEdgesTest {
    private static final String PARK = "walk 2 4;walk 5 0;walk 3 16;child 3 7;child 6 10;child 1 4;"
        + "hoop 2;hoop 5;long 20;fine 4;";
    private static final Check CHECK = new Check();

    public static void main(String[] args) {
        atFirst();
        refusedStepsChangeNothing();
        giving();
        resting();
        bribing();
        tiredOnes();
        rollsThatCannotBe();
        dayTwoHundred();
        twoHundredSteps();
        agains();
        hourIsOver();
        dayIsOver();
        tooLongOrNot();
        smallestPark();
        undoing();
        refusedOfTheLatest();
        imagesFull();
        imagesAndWorks();
        imagesAndParks();
        CHECK.end();
    }

    private static void work(HoopHours x, String text, int done, int refused) {
        CHECK.is("work of \"" + text + "\"", done, Check.work(x, text));
        CHECK.is("told(11) behind \"" + text + "\"", refused, x.told(11));
    }

    private static void isAtFirst(HoopHours x, int children, int hoops) {
        for (int what : new int[] {3, 4, 5, 6, 7, 8, 9, 10, 11, 12}) {
            CHECK.is("told(" + what + ")", 0, x.told(what));
        }
        for (int child = 0; child < children; child++) {
            for (int what = 2; what <= 5; what++) {
                CHECK.is("child(" + child + ", " + what + ")", 0, x.child(child, what));
            }
        }
        for (int hoop = 0; hoop < hoops; hoop++) {
            CHECK.is("hoop(" + hoop + ", 1)", -1, x.hoop(hoop, 1));
            CHECK.is("hoop(" + hoop + ", 2)", 0, x.hoop(hoop, 2));
        }
        CHECK.is("count(0)", 0, x.count(0));
        CHECK.is("count(2)", 0, x.count(2));
        CHECK.is("undo()", -1, x.undo());
        CHECK.is("restore()", -1, x.restore());
    }

    private static void atFirst() {
        CHECK.promise(1, "a new object, a park without clauses");
        HoopHours x = new HoopHours();
        isAtFirst(x, 0, 0);
        CHECK.is("told(0), told(1), told(2)", 0, x.told(0) + x.told(1) + x.told(2));
        CHECK.is("count(1)", 0, x.count(1));
        CHECK.is("fault()", -1, x.fault());
        CHECK.is("status(0), status(1)", 0, x.status(0) + x.status(1));
        CHECK.is("work of nothing", 0, x.work(0));
        CHECK.is("work of rain", 1, Check.work(x, "rain;roll;"));
        CHECK.is("told(11), roll was refused", 1, x.told(11));
        CHECK.is("songs of nothing", 0, x.songs(0));
        CHECK.promise(3, "park, all is as at first");
        String large = "walk 2 4;".repeat(8) + "child 3 7;".repeat(8) + "hoop 2;".repeat(8) + "long 1;fine 20;";
        HoopHours y = Check.with(large, "rain + bribe + 9", "give 0 7;give 7 0;give 3 3;rain;bribe 0 9;bribe 7 9;again 20 [roll;];");
        Check.songs(y, "1 9;7 9;");
        y.image();
        y.image();
        CHECK.is("park of one each", 1, Check.park(y, "walk 1 1;child 1 3;hoop 1;"));
        isAtFirst(y, 1, 1);
        CHECK.is("park of eight each", 8, Check.park(y, large));
        isAtFirst(y, 8, 8);
    }

    private static void refusedStepsChangeNothing() {
        CHECK.promise(5, "work, a step that is refused changes nothing");
        HoopHours x = Check.with(PARK, "", "give 0 1;again 11 [bribe 1 9;];rain;roll;roll;roll;");
        Check.work(x, "again 11 [bribe 1 9;];");
        List<Integer> before = Look.atWork(x);
        for (String step : new String[] {"give 0 1;", "roll;", "rest 0;", "rest 2;", "bribe 1 1;", "bribe 1 9;"}) {
            work(x, step, 0, 1);
            CHECK.same("behind " + step, before, Look.atWork(x));
            work(x, step + step, 0, 2);
            CHECK.same("behind " + step + step, before, Look.atWork(x));
        }
        CHECK.is("count(2), works with all of them refused are works", 14, x.count(2));
    }

    private static void giving() {
        CHECK.promise(5, "work, give is refused, if it is that child's");
        HoopHours x = Check.withPark(PARK);
        work(x, "give 0 0;", 1, 0);
        work(x, "give 0 0;", 0, 1);
        work(x, "give 0 1;give 0 0;give 0 0;give 0 2;", 3, 1);
        CHECK.is("hoop(0, 1)", 2, x.hoop(0, 1));
        CHECK.is("hoop(1, 1)", -1, x.hoop(1, 1));
        CHECK.is("child(0, 5)", 0, x.child(0, 5));
        CHECK.is("child(2, 5)", 1, x.child(2, 5));
        work(x, "give 1 2;", 1, 0);
        CHECK.is("child(2, 5)", 3, x.child(2, 5));
        CHECK.is("idle()", 3, x.idle());
    }

    private static void resting() {
        CHECK.promise(5, "work, rest is refused, if the child is not tired");
        HoopHours x = Check.with(PARK, "", "give 0 1;roll;");
        work(x, "rest 0;", 0, 1);
        work(x, "rest 1;", 1, 0);
        CHECK.is("child(1, 2)", 0, x.child(1, 2));
        work(x, "rest 1;", 0, 1);
        work(x, "roll;roll;rest 1;rest 1;", 3, 1);
        CHECK.is("child(1, 2)", 0, x.child(1, 2));
    }

    private static void bribing() {
        CHECK.promise(5, "work, bribe, 99 at most, refused if the child has 99");
        HoopHours x = Check.with(PARK, "", "again 10 [bribe 0 9;];again 10 [bribe 1 9;];again 10 [bribe 2 9;];");
        work(x, "bribe 0 8;bribe 1 9;bribe 2 7;", 3, 0);
        CHECK.is("98 toffees", 98, x.child(0, 3));
        CHECK.is("99 toffees", 99, x.child(1, 3));
        CHECK.is("97 toffees", 97, x.child(2, 3));
        work(x, "bribe 1 1;", 0, 1);
        work(x, "bribe 0 1;", 1, 0);
        CHECK.is("98 and 1", 99, x.child(0, 3));
        work(x, "bribe 0 9;", 0, 1);
        work(x, "bribe 2 9;", 1, 0);
        CHECK.is("97 and 9 are 99", 99, x.child(2, 3));
        work(x, "bribe 2 1;", 0, 1);
        HoopHours y = Check.with(PARK, "", "again 10 [bribe 0 9;];bribe 0 8;bribe 0 2;bribe 0 1;");
        CHECK.is("98 and 2 are 99", 99, y.child(0, 3));
        CHECK.is("told(11)", 1, y.told(11));
    }

    private static void tiredOnes() {
        CHECK.promise(5, "work, tired by one more, 99 at most");
        HoopHours x = Check.with("walk 1 0;child 9 3;child 9 3;hoop 1;", "tired + 1", "give 0 0;again 49 [roll;roll;];");
        CHECK.is("child(0, 2) of 98 rolls", 98, x.child(0, 2));
        CHECK.is("hoop(0, 2), it was tired of 97", 98, x.hoop(0, 2));
        work(x, "roll;", 1, 0);
        CHECK.is("child(0, 2) of 99 rolls", 99, x.child(0, 2));
        CHECK.is("child(1, 2) of none", 0, x.child(1, 2));
        Check.law(x, "101 - tired");
        work(x, "roll;", 1, 0);
        CHECK.is("child(0, 2) of 100 rolls", 99, x.child(0, 2));
        CHECK.is("hoop(0, 2)", 2, x.hoop(0, 2));
        work(x, "roll;", 1, 0);
        CHECK.is("hoop(0, 2), no more tired", 2, x.hoop(0, 2));
        work(x, "rest 0;roll;", 2, 0);
        CHECK.is("child(0, 2) since it rested", 1, x.child(0, 2));
        CHECK.is("hoop(0, 2), it rested", 99, x.hoop(0, 2));
    }

    private static void rollsThatCannotBe() {
        CHECK.promise(5, "work, roll is refused, if the hoop that is the hour is given to nobody");
        HoopHours x = Check.withPark(PARK);
        work(x, "roll;", 0, 1);
        work(x, "give 1 0;roll;", 1, 1);
        work(x, "give 0 0;roll;roll;roll;roll;", 5, 0);
        HoopHours y = Check.with(PARK, "", "give 0 0;");
        work(y, "again 9 [roll;];", 3, 6);
        CHECK.is("told(3)", 1, y.told(3));
        CHECK.is("told(4)", 0, y.told(4));
        CHECK.promise(5, "work, roll is refused without walks");
        HoopHours noWalk = Check.with("child 1 3;hoop 1;", "", "give 0 0;");
        work(noWalk, "roll;", 0, 1);
        CHECK.is("child(0, 2)", 0, noWalk.child(0, 2));
        CHECK.promise(5, "work, roll is refused without hoops");
        work(Check.withPark("walk 1 1;child 1 3;"), "roll;rain;roll;", 1, 2);
        work(Check.withPark("walk 1 1;"), "roll;", 0, 1);
        work(new HoopHours(), "roll;", 0, 1);
        CHECK.promise(5, "work, roll without children is given to nobody");
        work(Check.withPark("walk 1 1;hoop 1;"), "roll;", 0, 1);
    }

    private static void dayTwoHundred() {
        CHECK.promise(5, "work, roll is refused from day 200 on");
        HoopHours x = Check.with("walk 1 0;child 9 3;hoop 1;hoop 1;", "1", "give 0 0;give 1 0;");
        for (int i = 0; i < 2; i++) {
            work(x, "again 60 [roll;roll;roll;];again 18 [roll;];", 198, 0);
        }
        work(x, "roll;roll;roll;", 3, 0);
        CHECK.is("told(6)", 199, x.told(6));
        CHECK.is("told(3)", 1, x.told(3));
        work(x, "roll;roll;roll;", 1, 2);
        CHECK.is("told(6)", 200, x.told(6));
        CHECK.is("told(3)", 0, x.told(3));
        work(x, "give 0 0;give 1 0;rain;bribe 0 1;rest 0;roll;", 3, 3);
        CHECK.is("child(0, 2), it is as before", 0, x.child(0, 2));
        CHECK.promise(16, "ahead, beyond day 200, too");
        CHECK.is("ahead(200, 4)", 200, x.ahead(200, 4));
        CHECK.is("ahead(3, 1)", 1, x.ahead(3, 1));
        CHECK.promise(17, "due, beyond day 200, too");
        CHECK.is("due(1)", 1, x.due(1));
        CHECK.promise(18, "hour, beyond day 200, too");
        CHECK.is("hour(399)", 1, x.hour(399));
        CHECK.promise(19, "late, beyond day 200, too");
        Check.law(x, "tired / 50 * 61 + 1");
        CHECK.is("late()", 0, x.late());
        CHECK.promise(34, "bowls, beyond day 200, too");
        CHECK.is("bowls(0, 200)", 200, x.bowls(0, 200));
        CHECK.promise(37, "days, beyond day 200, too");
        Check.law(x, "1");
        CHECK.is("days(1, 200, 16, 2)", 200, x.days(1, 200, 16, 2));
        CHECK.promise(38, "span, beyond day 200, too");
        CHECK.is("span(1, 2, 200, 0, 0)", 200, x.span(1, 2, 200, 0, 0));
        x.undo();
        x.undo();
        CHECK.promise(16, "ahead, from day 199 into day 200");
        CHECK.is("told(6)", 199, x.told(6));
        CHECK.is("ahead(9, 4)", 9, x.ahead(9, 4));
    }

    private static void twoHundredSteps() {
        CHECK.promise(5, "work, 200 steps at most are begun");
        HoopHours x = Check.withPark("walk 1 0;child 9 3;hoop 1;");
        work(x, "again 49 [rain;rain;rain;rain;];rain;rain;", 198, 0);
        work(x, "again 49 [rain;rain;rain;rain;];rain;rain;rain;", 199, 0);
        work(x, "again 49 [rain;rain;rain;rain;];rain;rain;rain;rain;", 199, 0);
        work(x, "again 60 [rain;rain;rain;rain;rain;];bribe 0 1;", 199, 0);
        CHECK.is("child(0, 3), what comes behind is left out", 0, x.child(0, 3));
        CHECK.promise(5, "work, 200 steps, an again too, each time it is come to");
        work(x, "again 60 [again 1 [rain;];];again 60 [again 1 [];];again 16 [again 0 [];];rain;", 61, 0);
        work(x, "again 60 [again 1 [rain;];];again 60 [again 1 [];];again 17 [again 0 [];];rain;", 60, 0);
        work(x, "again 60 [again 0 [];again 0 [];again 0 [];];again 18 [again 0 [];];bribe 0 1;", 0, 0);
        CHECK.is("child(0, 3), it was the 201st", 0, x.child(0, 3));
        work(x, "again 60 [again 0 [];again 0 [];again 0 [];];again 17 [again 0 [];];bribe 0 1;", 1, 0);
        CHECK.is("child(0, 3), it was the 200th", 1, x.child(0, 3));
        CHECK.promise(5, "work, 200 steps, refused ones too");
        x = Check.withPark("walk 1 0;child 9 3;hoop 1;");
        work(x, "again 60 [rest 0;rest 0;rest 0;];again 17 [rest 0;];bribe 0 1;rain;", 1, 197);
        CHECK.is("child(0, 3), it was the 200th", 1, x.child(0, 3));
        CHECK.is("told(8), it was the 201st", 0, x.told(8));
        work(x, "again 60 [rest 0;rest 0;rest 0;];again 18 [rest 0;];bribe 0 1;rain;", 0, 198);
        CHECK.is("child(0, 3), it was the 201st", 1, x.child(0, 3));
        CHECK.promise(5, "work, each work begins its own 200 steps");
        work(x, "again 60 [rain;rain;rain;rain;];", 199, 0);
        work(x, "again 60 [rain;rain;rain;rain;];", 199, 0);
    }

    private static void agains() {
        CHECK.promise(5, "work, again 0 to 60 times");
        HoopHours x = Check.withPark(PARK);
        work(x, "again 0 [bribe 0 1;];", 0, 0);
        work(x, "again 1 [bribe 0 1;];", 1, 0);
        work(x, "again 60 [bribe 0 1;];", 60, 0);
        CHECK.is("child(0, 3)", 61, x.child(0, 3));
        work(x, "again 60 [];", 0, 0);
        work(x, "again 2 [again 3 [bribe 1 1;];bribe 1 1;];bribe 1 1;", 9, 0);
        CHECK.is("child(1, 3)", 9, x.child(1, 3));
        work(x, "again 2 [again 2 [again 2 [again 2 [again 2 [again 2 [bribe 2 1;];];];];];];", 64, 0);
        CHECK.is("child(2, 3)", 64, x.child(2, 3));
        work(x, "again 1 [again 0 [bribe 1 1;];again 0 [bribe 1 1;];bribe 1 2;];", 1, 0);
        CHECK.is("child(1, 3)", 11, x.child(1, 3));
        CHECK.promise(5, "work, steps are done in order");
        work(x, "give 0 0;give 0 1;give 0 0;again 2 [give 1 0;give 1 1;];", 7, 0);
        CHECK.is("hoop(0, 1)", 0, x.hoop(0, 1));
        CHECK.is("hoop(1, 1)", 1, x.hoop(1, 1));
    }

    private static void hourIsOver() {
        CHECK.promise(5, "work, behind the last walk the hour is over");
        HoopHours x = Check.with(PARK, "walk + 5", "give 0 0;give 1 1;bribe 0 2;bribe 1 2;roll;");
        int[] due = {0, 1, 5, 0, 5};
        for (int i = 0; i < 5; i++) {
            CHECK.is("told(" + (3 + i) + ")", due[i], x.told(3 + i));
        }
        work(x, "roll;", 1, 0);
        CHECK.is("told(4), at the last walk", 2, x.told(4));
        CHECK.is("told(5)", 11, x.told(5));
        CHECK.is("hoop(0, 2), it is not over", 0, x.hoop(0, 2));
        CHECK.is("child(0, 3), not eaten yet", 2, x.child(0, 3));
        work(x, "roll;", 1, 0);
        CHECK.is("told(3)", 1, x.told(3));
        CHECK.is("told(4)", 0, x.told(4));
        CHECK.is("told(5)", 0, x.told(5));
        CHECK.is("told(7)", 18, x.told(7));
        CHECK.is("hoop(0, 2)", 18, x.hoop(0, 2));
        CHECK.is("child(0, 3), eaten though it was not too long", 0, x.child(0, 3));
        CHECK.is("child(1, 3), another one's are not", 2, x.child(1, 3));
        CHECK.is("child(0, 2)", 3, x.child(0, 2));
        CHECK.is("told(12)", 0, x.told(12));
        CHECK.is("told(9)", 0, x.told(9));
    }

    private static void dayIsOver() {
        CHECK.promise(5, "work, behind the last hoop it is hoop 0, on the next day");
        HoopHours x = Check.with(PARK, "walk + 5", "give 0 0;give 1 1;again 5 [roll;];");
        CHECK.is("told(3)", 1, x.told(3));
        CHECK.is("told(6)", 0, x.told(6));
        CHECK.is("told(7), minutes of this day", 29, x.told(7));
        CHECK.is("told(5), minutes of this hour", 11, x.told(5));
        work(x, "roll;", 1, 0);
        CHECK.is("told(3)", 0, x.told(3));
        CHECK.is("told(4)", 0, x.told(4));
        CHECK.is("told(5)", 0, x.told(5));
        CHECK.is("told(6)", 1, x.told(6));
        CHECK.is("told(7)", 0, x.told(7));
        work(x, "roll;", 1, 0);
        CHECK.is("told(5)", 5, x.told(5));
        CHECK.is("told(7)", 5, x.told(7));
        CHECK.is("hoop(0, 2), of the latest time it was over", 18, x.hoop(0, 2));
    }

    private static void tooLongOrNot() {
        CHECK.promise(5, "work, the child that bowled the last walk owes the fine more");
        HoopHours x = Check.with(PARK, "least[walk, 1] * 6 + 6 + weight / 5", "give 0 0;give 1 0;roll;roll;give 0 1;roll;");
        CHECK.is("hoop(0, 2)", 30, x.hoop(0, 2));
        CHECK.is("child(0, 4)", 0, x.child(0, 4));
        CHECK.is("child(1, 4)", 4, x.child(1, 4));
        work(x, "give 1 1;roll;give 1 0;roll;give 1 2;bribe 1 5;bribe 2 5;roll;", 8, 0);
        CHECK.is("child(0, 4)", 0, x.child(0, 4));
        CHECK.is("child(1, 4)", 4, x.child(1, 4));
        CHECK.is("child(2, 4)", 4, x.child(2, 4));
        CHECK.is("child(1, 3), it bowled the first walk", 5, x.child(1, 3));
        CHECK.is("child(2, 3), it bowled the last walk", 0, x.child(2, 3));
        CHECK.is("told(9)", 8, x.told(9));
        CHECK.is("told(12)", 2, x.told(12));
        CHECK.promise(5, "work, too long is above N");
        HoopHours y = Check.with("walk 1 0;walk 1 0;child 9 3;hoop 1;long 20;fine 0;", "10", "give 0 0;roll;roll;");
        CHECK.is("told(12) of 20", 0, y.told(12));
        Check.law(y, "10 + walk");
        work(y, "roll;roll;", 2, 0);
        CHECK.is("told(12) of 21", 1, y.told(12));
        CHECK.is("told(9), a fine of 0", 0, y.told(9));
        CHECK.is("debtor(0), a fine of 0", -1, y.debtor(0));
    }

    private static void smallestPark() {
        CHECK.promise(5, "work, one walk, one child, one hoop");
        HoopHours x = Check.with("walk 1 16;child 9 3;hoop 1;long 1;fine 7;", "", "give 0 0;roll;");
        int[] due = {1, 1, 1, 0, 0, 0, 1, 0, 0, 0, 0, 0, 0};
        for (int what = 0; what <= 12; what++) {
            CHECK.is("told(" + what + ")", due[what], x.told(what));
        }
        CHECK.is("hoop(0, 2)", 1, x.hoop(0, 2));
        work(x, "roll;", 1, 0);
        CHECK.is("hoop(0, 2)", 2, x.hoop(0, 2));
        CHECK.is("told(9)", 7, x.told(9));
        CHECK.is("told(12)", 1, x.told(12));
        CHECK.is("told(6)", 2, x.told(6));
    }

    private static void undoing() {
        CHECK.promise(8, "undo, of no steps and of all refused, too; NONE without");
        HoopHours x = Check.withPark(PARK);
        CHECK.is("undo() ahead of any work", -1, x.undo());
        work(x, "", 0, 0);
        CHECK.is("undo() of no steps", 0, x.undo());
        CHECK.is("undo() of none", -1, x.undo());
        work(x, "rest 0;", 0, 1);
        CHECK.is("undo() of a refused one", 0, x.undo());
        CHECK.is("undo() of none", -1, x.undo());
        Check.work(x, "rain;x");
        CHECK.is("undo() of a fault", -1, x.undo());
        String[] works = {"give 0 0;give 1 1;", "rain;", "bribe 0 9;bribe 1 3;", "roll;", "roll;", "roll;", "rest 0;", "", "rest 0;",
            "give 1 0;", "roll;roll;give 1 1;roll;", "rain;bribe 2 9;", "roll;", "again 60 [roll;roll;roll;];", "give 0 2;", "rest 1;"};
        List<List<Integer>> before = new java.util.ArrayList<>();
        for (String text : works) {
            before.add(Look.atWork(x));
            Check.work(x, text);
        }
        CHECK.is("count(2)", 16, x.count(2));
        Check.work(x, "rain;");
        for (int i = 15; i >= 0; i--) {
            CHECK.is("undo()", i, x.undo());
            CHECK.same("behind undo() of \"" + works[i] + "\"", before.get(i), Look.atWork(x));
        }
        CHECK.is("undo() of none", -1, x.undo());
        CHECK.same("behind undo() of none", before.get(0), Look.atWork(x));
    }

    private static void refusedOfTheLatest() {
        CHECK.promise(9, "told(11), 0 ahead of any work, behind park, undo, restore; a fault, -20, -1 leave it");
        HoopHours x = new HoopHours();
        CHECK.is("told(11) ahead of any", 0, x.told(11));
        Check.park(x, PARK);
        CHECK.is("undo() of none", -1, x.undo());
        CHECK.is("restore() of none", -1, x.restore());
        work(x, "rest 0;rest 1;rest 2;", 0, 3);
        x.image();
        String[] faults = {"park", "law", "work", "songs"};
        for (String what : faults) {
            int n = Check.feed(x, "?");
            int got = what.equals("park") ? x.park(n) : what.equals("law") ? x.law(n) : what.equals("work") ? x.work(n) : x.songs(n);
            CHECK.is(what + " of ?", -9, got);
            CHECK.is("told(11) behind a fault of " + what, 3, x.told(11));
        }
        Check.law(x, "9");
        Check.songs(x, "1 9;");
        CHECK.is("told(11) behind law and songs", 3, x.told(11));
        CHECK.illegal("work(1)", () -> x.work(1));
        CHECK.is("told(11) behind the exception", 3, x.told(11));
        CHECK.is("restore()", 0, x.restore());
        CHECK.is("told(11) behind restore()", 0, x.told(11));
        work(x, "rest 0;", 0, 1);
        CHECK.is("restore()", -1, x.restore());
        CHECK.is("told(11) behind restore() of none", 1, x.told(11));
        work(x, "rest 0;rest 0;", 0, 2);
        CHECK.is("undo()", 2, x.undo());
        CHECK.is("told(11) behind undo()", 0, x.told(11));
        x.undo();
        x.undo();
        work(x, "rest 0;", 0, 1);
        x.undo();
        CHECK.is("undo()", -1, x.undo());
        CHECK.is("told(11)", 0, x.told(11));
        for (int i = 0; i < 16; i++) {
            work(x, "rest 0;rest 0;", 0, 2);
        }
        CHECK.is("work", -20, Check.work(x, "rest 0;"));
        CHECK.is("told(11) behind -20", 2, x.told(11));
        x.image();
        x.image();
        x.image();
        CHECK.is("image()", -1, x.image());
        CHECK.is("told(11) behind image() of -1", 2, x.told(11));
        Check.park(x, PARK);
        CHECK.is("told(11) behind park()", 0, x.told(11));
    }

    private static void imagesFull() {
        CHECK.promise(39, "image, -1 if there are 3");
        HoopHours x = Check.withPark(PARK);
        for (int i = 1; i <= 3; i++) {
            CHECK.is("count(0)", i - 1, x.count(0));
            CHECK.is("image()", i, x.image());
            Check.work(x, "bribe 0 " + i + ";");
        }
        CHECK.is("image() of a fourth", -1, x.image());
        CHECK.is("count(0)", 3, x.count(0));
        CHECK.is("child(0, 3)", 6, x.child(0, 3));
        CHECK.promise(40, "restore, the latest image; -1 without");
        CHECK.is("restore()", 2, x.restore());
        CHECK.is("child(0, 3), the fourth was none", 3, x.child(0, 3));
        CHECK.is("image() again", 3, x.image());
        CHECK.is("image() of a fourth", -1, x.image());
        CHECK.is("restore()", 2, x.restore());
        CHECK.is("restore()", 1, x.restore());
        CHECK.is("child(0, 3)", 1, x.child(0, 3));
        CHECK.is("restore()", 0, x.restore());
        CHECK.is("child(0, 3)", 0, x.child(0, 3));
        CHECK.is("restore() of none", -1, x.restore());
        CHECK.is("count(0)", 0, x.count(0));
        Check.work(x, "bribe 0 7;");
        CHECK.is("restore() of none", -1, x.restore());
        CHECK.is("child(0, 3), it stays", 7, x.child(0, 3));
    }

    private static void imagesAndWorks() {
        CHECK.promise(40, "restore, works that can be undone are as in the image");
        HoopHours x = Check.with(PARK, "bribe + tired + 4", "give 0 0;give 1 2;");
        for (int i = 1; i < 16; i++) {
            Check.work(x, i % 3 == 0 ? "bribe 0 " + i % 10 + ";" : "roll;");
        }
        List<Integer> full = Look.atWork(x);
        x.image();
        for (int i = 0; i < 16; i++) {
            x.undo();
        }
        List<Integer> none = Look.atWork(x);
        x.image();
        for (int i = 0; i < 9; i++) {
            Check.work(x, "give 0 1;give 1 1;rain;roll;");
        }
        CHECK.is("restore()", 1, x.restore());
        CHECK.same("of an image of no works", none, Look.atWork(x));
        CHECK.is("undo() behind an image of no works", -1, x.undo());
        Check.work(x, "give 0 1;give 1 1;rain;roll;");
        Check.feed(x, "rain;");
        CHECK.is("restore()", 0, x.restore());
        CHECK.is("count(1), no image keeps the tape", 20, x.count(1));
        CHECK.same("of an image of 16 works", full, Look.atWork(x));
        CHECK.is("count(2)", 16, x.count(2));
        CHECK.is("work(5)", -20, x.work(5));
        for (int i = 15; i >= 0; i--) {
            CHECK.is("undo()", i, x.undo());
        }
        CHECK.same("undone behind it", none, Look.atWork(x));
        CHECK.promise(41, "status, no image keeps it");
        CHECK.illegal("told(-1)", () -> x.told(-1));
        x.image();
        CHECK.noSuch("load(9)", () -> x.load(9));
        CHECK.illegal("told(-1)", () -> x.told(-1));
        x.restore();
        CHECK.is("status(0)", 1, x.status(0));
        CHECK.is("status(1)", 2, x.status(1));
        Check.work(x, "rain;");
        x.undo();
        CHECK.is("status(1) behind undo()", 2, x.status(1));
        Check.park(x, "");
        CHECK.is("status(0) behind park()", 1, x.status(0));
        CHECK.is("status(1) behind park()", 2, x.status(1));
    }

    private static void imagesAndParks() {
        CHECK.promise(3, "park, no law, no songs, no images, nothing to undo; a fault leaves them");
        HoopHours x = Check.with(PARK, "7", "rain;");
        Check.songs(x, "1 7;2 14;");
        x.image();
        x.image();
        Check.park(x, PARK + "?");
        CHECK.is("count(0) behind a fault", 2, x.count(0));
        CHECK.is("count(2) behind a fault", 1, x.count(2));
        CHECK.is("told(10) behind a fault", 2, x.told(10));
        CHECK.is("minutes(0, 0, 0) behind a fault", 7, x.minutes(0, 0, 0));
        Check.park(x, PARK);
        CHECK.is("count(0)", 0, x.count(0));
        CHECK.is("count(2)", 0, x.count(2));
        CHECK.is("told(10)", 0, x.told(10));
        CHECK.is("minutes(0, 0, 0)", 6, x.minutes(0, 0, 0));
        CHECK.is("fits(0), there are no songs", 6, x.fits(0));
        CHECK.promise(40, "restore, law, songs and park stay");
        Check.law(x, "8");
        x.image();
        Check.law(x, "9");
        Check.songs(x, "1 9;");
        x.restore();
        CHECK.is("minutes(0, 0, 0)", 9, x.minutes(0, 0, 0));
        CHECK.is("told(10)", 1, x.told(10));
        CHECK.promise(8, "undo, law and songs stay");
        Check.work(x, "rain;");
        Check.law(x, "10");
        Check.songs(x, "1 9;2 9;");
        x.undo();
        CHECK.is("minutes(0, 0, 0)", 10, x.minutes(0, 0, 0));
        CHECK.is("told(10)", 2, x.told(10));
        CHECK.promise(42, "count, images, bytes of the tape, works");
        x.feed(0, 0, 0, 0, 0);
        x.feed(0, 0, 0, 0, 0);
        x.image();
        Check.work(x, "rain;");
        CHECK.is("count(0)", 1, x.count(0));
        CHECK.is("count(1), two feeds and the one of the work are gone", 0, x.count(1));
        CHECK.is("count(2)", 0, x.count(2));
        CHECK.is("fault() of the work, bytes 0 stood ahead", 0, x.fault());
    }
}
