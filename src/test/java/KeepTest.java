/** Promises 1, 8 and 39 to 42: a new object, work undone, images, refusals and counts. */
public final class KeepTest {
    private static final String PARK = "walk 2 4;walk 5 0;walk 3 16;child 3 7;child 6 10;child 1 4;"
        + "hoop 2;hoop 5;long 20;fine 4;";
    private static final Check CHECK = new Check();

    public static void main(String[] args) {
        newObject();
        undoing();
        undoingAll();
        images();
        imagesKeepWorks();
        refusals();
        counts();
        CHECK.end();
    }

    private static void newObject() {
        CHECK.promise(1, "a new object");
        HoopHours x = new HoopHours();
        for (int what = 0; what <= 12; what++) {
            CHECK.is("told(" + what + ")", 0, x.told(what));
        }
        CHECK.noSuch("walk(0, 0)", () -> x.walk(0, 0));
        CHECK.noSuch("child(0, 0)", () -> x.child(0, 0));
        CHECK.noSuch("hoop(0, 0)", () -> x.hoop(0, 0));
        CHECK.is("fault()", -1, x.fault());
        CHECK.is("undo()", -1, x.undo());
        CHECK.is("restore()", -1, x.restore());
        CHECK.is("idle()", 0, x.idle());
        CHECK.is("would(20, 4, 3, 5, 6, 1, 1)", 41, x.would(20, 4, 3, 5, 6, 1, 1));
        CHECK.is("mean(9, 0)", 0, x.mean(9, 0));
        CHECK.is("mean(9, 1)", 1, x.mean(9, 1));
        CHECK.is("NONE", -1, HoopHours.NONE);
    }

    /** All that work changes; not the lines of the songs (10), nor the steps refused (11). */
    private static int[] stateOf(HoopHours x) {
        int[] all = new int[11 + 3 * 4 + 2 * 2];
        int size = 0;
        for (int what = 0; what < 13; what++) {
            if (what != 10 && what != 11) {
                all[size++] = x.told(what);
            }
        }
        for (int child = 0; child < 3; child++) {
            for (int what = 2; what < 6; what++) {
                all[size++] = x.child(child, what);
            }
        }
        for (int hoop = 0; hoop < 2; hoop++) {
            for (int what = 1; what < 3; what++) {
                all[size++] = x.hoop(hoop, what);
            }
        }
        return all;
    }

    private static void same(String when, int[] due, HoopHours x) {
        int[] got = stateOf(x);
        for (int i = 0; i < due.length; i++) {
            CHECK.is("number " + i + " of the state " + when, due[i], got[i]);
        }
    }

    private static void undoing() {
        CHECK.promise(8, "undo");
        HoopHours x = Check.withPark(PARK);
        int[] first = stateOf(x);
        Check.work(x, "give 0 0;give 1 2;rain;bribe 0 3;bribe 2 4;again 5[roll;];");
        int[] second = stateOf(x);
        Check.work(x, "");
        Check.work(x, "rest 1;");
        Check.work(x, "give 0 1;give 1 1;rain;bribe 0 3;bribe 1 4;rest 0;rest 2;again 9[roll;];");
        int[] last = stateOf(x);
        Check.work(x, "nonsense");
        CHECK.is("undo()", 3, x.undo());
        same("behind undo()", second, x);
        CHECK.is("undo() of a work with all refused", 2, x.undo());
        CHECK.is("undo() of a work without steps", 1, x.undo());
        same("behind three undo()", second, x);
        Check.work(x, "give 0 1;give 1 1;rain;bribe 0 3;bribe 1 4;rest 0;rest 2;again 9[roll;];");
        same("done once more", last, x);
        CHECK.is("undo()", 1, x.undo());
        CHECK.is("undo()", 0, x.undo());
        same("behind undo() of all", first, x);
        CHECK.is("undo() of none", -1, x.undo());
        same("behind undo() of none", first, x);
        Check.law(x, "7");
        Check.songs(x, "1 7;");
        Check.work(x, "rain;");
        x.undo();
        CHECK.is("the law stays", 7, x.minutes(0, 0, 0));
        CHECK.is("the songs stay", 1, x.told(10));
    }

    private static void undoingAll() {
        HoopHours x = Check.with(PARK, "3", "give 0 0;give 1 1;");
        for (int i = 2; i <= 16; i++) {
            Check.work(x, "roll;");
            CHECK.is("count(2)", i, x.count(2));
        }
        CHECK.is("told(5) of 15 rolls", 0, x.told(5));
        CHECK.is("told(6) of 15 rolls", 2, x.told(6));
        for (int i = 15; i >= 1; i--) {
            CHECK.is("undo()", i, x.undo());
            CHECK.is("told(5) of " + (i - 1) + " rolls", (i - 1) % 3 * 3, x.told(5));
            CHECK.is("told(6) of " + (i - 1) + " rolls", (i - 1) / 6, x.told(6));
        }
        CHECK.is("hoop(0, 1)", 0, x.hoop(0, 1));
        CHECK.is("undo()", 0, x.undo());
        CHECK.is("hoop(0, 1)", -1, x.hoop(0, 1));
    }

    private static void images() {
        CHECK.promise(39, "image");
        HoopHours x = Check.with(PARK, "", "give 0 0;give 1 2;bribe 2 5;roll;");
        int[] first = stateOf(x);
        CHECK.is("image()", 1, x.image());
        Check.work(x, "rain;bribe 1 3;roll;roll;roll;");
        int[] second = stateOf(x);
        CHECK.is("image()", 2, x.image());
        Check.work(x, "rain;bribe 1 3;rest 0;rest 2;give 0 1;again 9 [roll;];");
        int[] third = stateOf(x);
        CHECK.is("image()", 3, x.image());
        CHECK.is("a fourth image()", -1, x.image());
        CHECK.is("count(0)", 3, x.count(0));
        Check.work(x, "again 9 [roll;];");
        CHECK.promise(40, "restore");
        CHECK.is("restore()", 2, x.restore());
        same("of the third image", third, x);
        CHECK.is("restore()", 1, x.restore());
        same("of the second image", second, x);
        Check.work(x, "again 9 [roll;];");
        CHECK.is("image() again", 2, x.image());
        int[] other = stateOf(x);
        Check.work(x, "again 9 [roll;];");
        CHECK.is("restore()", 1, x.restore());
        same("of the other second image", other, x);
        CHECK.is("restore()", 0, x.restore());
        same("of the first image", first, x);
        CHECK.is("restore() of none", -1, x.restore());
        same("behind restore() of none", first, x);
    }

    private static void imagesKeepWorks() {
        CHECK.promise(40, "restore, works that can be undone");
        HoopHours x = Check.with(PARK, "", "give 0 0;give 1 2;");
        int[] first = stateOf(x);
        Check.work(x, "roll;rain;");
        int[] second = stateOf(x);
        x.image();
        x.undo();
        x.undo();
        Check.work(x, "give 0 1;");
        Check.work(x, "bribe 1 1;");
        Check.work(x, "bribe 1 1;");
        Check.law(x, "4");
        Check.songs(x, "2 8;");
        CHECK.is("restore()", 0, x.restore());
        same("of the image", second, x);
        CHECK.is("count(2)", 2, x.count(2));
        CHECK.is("the law stays", 4, x.minutes(0, 0, 0));
        CHECK.is("the songs stay", 1, x.told(10));
        CHECK.is("undo()", 1, x.undo());
        same("undone behind it", first, x);
        CHECK.is("undo()", 0, x.undo());
        CHECK.is("idle()", 7, x.idle());
        x.image();
        Check.work(x, "rain;");
        x.restore();
        CHECK.is("undo() behind an image without works", -1, x.undo());
    }

    private static void refusals() {
        CHECK.promise(41, "status");
        HoopHours x = Check.withPark(PARK);
        CHECK.is("status(0)", 0, x.status(0));
        CHECK.is("status(1)", 0, x.status(1));
        CHECK.noSuch("walk(9, 9)", () -> x.walk(9, 9));
        CHECK.noSuch("share(9, 9, -9)", () -> x.share(9, 9, -9));
        CHECK.illegal("told(99)", () -> x.told(99));
        CHECK.is("status(0)", 2, x.status(0));
        CHECK.is("status(1)", 1, x.status(1));
        x.image();
        CHECK.illegal("park(1)", () -> x.park(1));
        CHECK.illegal("cover(-5)", () -> x.cover(-5));
        x.restore();
        CHECK.is("status(1), no image keeps it", 3, x.status(1));
        Check.park(x, "nonsense");
        Check.park(x, "");
        CHECK.is("status(0) behind park()", 2, x.status(0));
        CHECK.is("status(1) behind park()", 3, x.status(1));
        CHECK.is("status(2)", -1, x.status(2));
        CHECK.is("status(-1)", -1, x.status(-1));
        CHECK.is("status(1), status refuses none", 3, x.status(1));
    }

    private static void counts() {
        CHECK.promise(42, "count");
        HoopHours x = new HoopHours();
        CHECK.is("count(0)", 0, x.count(0));
        CHECK.is("count(1)", 0, x.count(1));
        CHECK.is("count(2)", 0, x.count(2));
        CHECK.is("count(3)", -1, x.count(3));
        CHECK.is("count(-1)", -1, x.count(-1));
        x.image();
        x.image();
        Check.work(x, "rain;");
        Check.work(x, "rain;");
        Check.work(x, "rain;");
        x.feed(0, 0, 0, 0, 0);
        CHECK.is("count(0)", 2, x.count(0));
        CHECK.is("count(1)", 20, x.count(1));
        CHECK.is("count(2)", 3, x.count(2));
        CHECK.is("status(1), count refuses none", 0, x.status(1));
    }
}
