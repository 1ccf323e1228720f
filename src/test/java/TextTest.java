/** Promises 2 to 7: the tape, the four texts and their faults. */
public final class TextTest {
    private static final Check CHECK = new Check();

    public static void main(String[] args) {
        feeding();
        parks();
        parkFaults();
        parkLimits();
        laws();
        lawFaults();
        works();
        workFaults();
        songs();
        songFaults();
        faultPlaces();
        CHECK.end();
    }

    private static void feeding() {
        CHECK.promise(2, "feed");
        HoopHours x = new HoopHours();
        for (int i = 1; i <= 30; i++) {
            CHECK.is("feed no. " + i, 20 * i, x.feed(0x6c6f6e67, 0x20202020, 0x20202031, 0x3b202020, 0x20202020));
        }
        CHECK.is("feed no. 31", -1, x.feed(-1, -1, -1, -1, -1));
        CHECK.is("count(1)", 600, x.count(1));
        CHECK.is("park(600)", 0, x.park(600));
        CHECK.is("count(1) behind park", 0, x.count(1));
        CHECK.is("feed, the highest byte first", 20, x.feed(0xE9202020, 0, 0, 0, 0));
        CHECK.is("park(1)", -9, x.park(1));
        CHECK.is("fault()", 0, x.fault());
        x.feed(0x20202041, 0x42434445, 0, 0, 0);
        CHECK.is("park(3)", 0, x.park(3));
        x.feed(0x20202041, 0x42434445, 0, 0, 0);
        CHECK.is("park(4)", -9, x.park(4));
        CHECK.is("fault() at the lowest byte", 3, x.fault());
        x.feed(0x20202020, 0x20202020, 0x20202020, 0x20202020, 0x20202041);
        CHECK.is("park(20)", -9, x.park(20));
        CHECK.is("fault() at the last byte", 19, x.fault());
    }

    private static void parks() {
        CHECK.promise(3, "park");
        HoopHours x = new HoopHours();
        CHECK.is("an empty park", 0, x.park(0));
        CHECK.is("a park", 2, Check.park(x, "walk 20 16;walk 1 0;child 9 14;hoop 9;hoop 1;child 1 3;"));
        CHECK.is("told(0)", 2, x.told(0));
        CHECK.is("told(1)", 2, x.told(1));
        CHECK.is("told(2)", 2, x.told(2));
        CHECK.is("walk(0, 0)", 20, x.walk(0, 0));
        CHECK.is("walk(1, 1)", 0, x.walk(1, 1));
        CHECK.is("child(0, 1)", 14, x.child(0, 1));
        CHECK.is("child(1, 0)", 1, x.child(1, 0));
        CHECK.is("hoop(1, 0)", 1, x.hoop(1, 0));
        CHECK.is("blanks where they may stand", 1, Check.park(x, "  walk2 0004 ; child3   7;hoop  00000000000000002;  "));
        CHECK.is("hoop(0, 0)", 2, x.hoop(0, 0));
        CHECK.is("walk(0, 1)", 4, x.walk(0, 1));
        int n = Check.feed(x, "hoop 3;");
        CHECK.illegal("park(21)", () -> x.park(21));
        CHECK.illegal("park(-1)", () -> x.park(-1));
        CHECK.is("count(1), the tape stays", 20, x.count(1));
        CHECK.is("told(0), the park stays", 1, x.told(0));
        CHECK.is("park(" + n + ")", 1, x.park(n));
        CHECK.is("told(0)", 0, x.told(0));
        CHECK.is("count(1)", 0, x.count(1));
        aNewParkForgets();
        aNewParkBeginsAnew();
        longsAndFines();
    }

    private static void aNewParkForgets() {
        HoopHours x = Check.with("walk 2 4;walk 3 1;child 3 7;hoop 2;", "9", "give 0 0;give 0 0;rain;roll;roll;bribe 0 3;");
        Check.songs(x, "1 9;");
        x.image();
        Check.park(x, "walk 2 4;walk 3 1;child 3 7;hoop 2;nonsense");
        CHECK.is("minutes behind a fault", 9, x.minutes(0, 0, 0));
        CHECK.is("lines behind a fault", 1, x.told(10));
        CHECK.is("images behind a fault", 1, x.count(0));
        CHECK.is("works behind a fault", 1, x.count(2));
        CHECK.is("steps refused behind a fault", 1, x.told(11));
        CHECK.is("toffees behind a fault", 3, x.child(0, 3));
        Check.park(x, "walk 2 4;walk 3 1;child 3 7;hoop 2;");
        CHECK.is("minutes by the plain law", 6, x.minutes(0, 0, 0));
        CHECK.is("lines", 0, x.told(10));
        CHECK.is("images", 0, x.count(0));
        CHECK.is("works", 0, x.count(2));
        CHECK.is("undo()", -1, x.undo());
        CHECK.is("restore()", -1, x.restore());
        for (int what = 3; what <= 12; what++) {
            CHECK.is("told(" + what + ")", 0, x.told(what));
        }
        CHECK.is("tired", 0, x.child(0, 2));
        CHECK.is("toffees", 0, x.child(0, 3));
        CHECK.is("hoops", 0, x.child(0, 5));
        CHECK.is("the child that has it", -1, x.hoop(0, 1));
        CHECK.is("latest long", 0, x.hoop(0, 2));
    }

    private static void aNewParkBeginsAnew() {
        HoopHours x = Check.with("walk 2 4;walk 3 1;child 3 7;child 4 4;hoop 2;hoop 3;long 1;fine 9;", "",
            "give 0 1;give 1 1;bribe 0 3;rain;roll;roll;roll;");
        CHECK.is("told(9)", 9, x.told(9));
        CHECK.is("park", 2, Check.park(x, "child 3 7;hoop 2;child 2 9;hoop 3;walk 1 1;walk 1 1;"));
        CHECK.is("told(0)", 2, x.told(0));
        CHECK.is("told(1)", 2, x.told(1));
        for (int what = 3; what <= 12; what++) {
            CHECK.is("told(" + what + ")", 0, x.told(what));
        }
        for (int child = 0; child < 2; child++) {
            for (int what = 2; what <= 5; what++) {
                CHECK.is("child(" + child + ", " + what + ")", 0, x.child(child, what));
            }
        }
        for (int hoop = 0; hoop < 2; hoop++) {
            CHECK.is("hoop(" + hoop + ", 1)", -1, x.hoop(hoop, 1));
            CHECK.is("hoop(" + hoop + ", 2)", 0, x.hoop(hoop, 2));
        }
        Check.law(x, "30");
        Check.work(x, "give 0 0;give 1 1;roll;roll;");
        CHECK.is("60 is not too long without a long", 0, x.told(12));
        Check.law(x, "31");
        Check.work(x, "roll;roll;");
        CHECK.is("a fine of 5 without a fine", 5, x.told(9));
    }

    private static void longsAndFines() {
        HoopHours x = Check.with("long 5;walk 9 0;child 9 3;hoop 1;long 500;fine 20;long 6;fine 3;", "", "give 0 0;roll;");
        CHECK.is("owed, the last fine counts, 7 is above 6", 3, x.child(0, 4));
        x = Check.with("walk 9 0;child 9 3;hoop 1;long 7;", "", "give 0 0;roll;");
        CHECK.is("owed, 7 is not above 7", 0, x.child(0, 4));
        x = Check.with("walk 9 0;child 9 3;hoop 1;", "61", "give 0 0;roll;");
        CHECK.is("owed, 5 without a fine told", 5, x.child(0, 4));
        x = Check.with("walk 9 0;child 9 3;hoop 1;", "60", "give 0 0;roll;");
        CHECK.is("owed, 60 without a long told", 0, x.child(0, 4));
        x = Check.with("walk 9 0;child 9 3;hoop 1;fine 0;", "61", "give 0 0;roll;");
        CHECK.is("owed by a fine of 0", 0, x.child(0, 4));
        CHECK.is("too long all the same", 1, x.told(12));
    }

    private static void parkFault(String text, int kind, int place) {
        HoopHours x = Check.withPark("hoop 3;hoop 4;");
        CHECK.is("park of \"" + text + "\"", kind - 10, Check.park(x, text));
        CHECK.is("fault() of \"" + text + "\"", place, x.fault());
        CHECK.is("told(2) behind \"" + text + "\"", 2, x.told(2));
        CHECK.is("count(1) behind \"" + text + "\"", 0, x.count(1));
    }

    private static void parkFaults() {
        CHECK.promise(3, "park, faults");
        parkFault("walk 0 1;", 2, 5);
        parkFault("walk 21 1;", 2, 5);
        parkFault("walk 1 17;", 2, 7);
        parkFault("child 0 3;", 2, 6);
        parkFault("child 10 3;", 2, 6);
        parkFault("child 1 2;", 2, 8);
        parkFault("child 1 15;", 2, 8);
        parkFault("hoop 0;", 2, 5);
        parkFault("hoop   10;", 2, 7);
        parkFault("long 0;", 2, 5);
        parkFault("long 501;", 2, 5);
        parkFault("fine 21;", 2, 5);
        parkFault("hoop 4294967297;", 2, 5);
        parkFault("hoop 99999999999999999999999999;", 2, 5);
        parkFault("walks 1;", 1, 0);
        parkFault("wal 1;", 1, 0);
        parkFault("Walk 1 1;", 1, 0);
        parkFault(" 5;", 1, 1);
        parkFault(";", 1, 0);
        parkFault("hoop 1;;", 1, 7);
        parkFault("hoop;", 1, 4);
        parkFault("hoop x;", 1, 5);
        parkFault("hoop 1x;", 1, 6);
        parkFault("hoop -1;", 1, 5);
        parkFault("hoop 1 1;", 1, 7);
        parkFault("walk 1;", 1, 6);
        parkFault("fine 1", 1, 6);
        parkFault("fine 1  ", 1, 8);
        parkFault("fine", 1, 4);
        parkFault("hoop 1; child", 1, 13);
        parkFault("walk 0 99 x", 2, 5);
        parkFault("hoop 1;\0", 1, 7);
        parkFault("hoop 1;\u00ff", 1, 7);
        parkFault("hoop\t1;", 1, 4);
    }

    private static void parkLimits() {
        CHECK.promise(3, "park, as many as there may be");
        parkFault("walk 1 1;".repeat(9), 3, 72);
        parkFault("child 1 3;".repeat(9), 3, 80);
        parkFault("hoop 1;".repeat(9), 3, 56);
        parkFault("hoop 1;".repeat(8) + "  hoop x", 3, 58);
        parkFault("fine 1;".repeat(60) + " fine", 3, 421);
        parkFault("fine 1;".repeat(60) + "fines", 1, 420);
        parkFault("fine 1;".repeat(60) + ";", 1, 420);
        HoopHours x = new HoopHours();
        String most = "walk 1 1;".repeat(8) + "child 1 3;".repeat(8) + "hoop 1;".repeat(8) + "fine 1;".repeat(36);
        CHECK.is("a park of 60 clauses", 8, Check.park(x, most));
        CHECK.is("told(0)", 8, x.told(0));
        CHECK.is("told(1)", 8, x.told(1));
    }

    private static void laws() {
        CHECK.promise(4, "law");
        HoopHours x = Check.withPark("walk 2 4;child 3 7;hoop 2;");
        CHECK.is("a law", 1, Check.law(x, " 1 + 2 * 3 "));
        CHECK.is("minutes(0, 0, 0)", 7, x.minutes(0, 0, 0));
        CHECK.is("fault()", -1, x.fault());
        CHECK.is("six open", 1, Check.law(x, "((((((5))))))"));
        CHECK.is("six open of all kinds", 1, Check.law(x, "(least[most[(most[(6),5]),4],9])"));
        CHECK.is("minutes by it", 6, x.minutes(0, 0, 0));
        CHECK.is("open again and again", 1, Check.law(x, "(1)+((2))+(((3)))+((((((4))))))"));
        CHECK.is("minutes by it", 10, x.minutes(0, 0, 0));
        CHECK.is("150 bytes", 1, Check.law(x, "1" + "+1".repeat(74) + " "));
        CHECK.is("minutes of 75", 75, x.minutes(0, 0, 0));
        Check.feed(x, " ".repeat(140) + "3" + " ".repeat(19));
        CHECK.illegal("law(151)", () -> x.law(151));
        CHECK.illegal("law(-1)", () -> x.law(-1));
        CHECK.is("count(1), the tape stays", 160, x.count(1));
        CHECK.is("law(150)", 1, x.law(150));
        CHECK.is("count(1)", 0, x.count(1));
        CHECK.is("minutes by it", 3, x.minutes(0, 0, 0));
        Check.feed(x, "5");
        CHECK.illegal("law(21)", () -> x.law(21));
        CHECK.is("fault() behind the exception", -1, x.fault());
    }

    private static void lawFault(String text, int kind, int place) {
        HoopHours x = Check.with("walk 2 4;child 3 7;hoop 2;", "8", "");
        CHECK.is("law of \"" + text + "\"", kind - 10, Check.law(x, text));
        CHECK.is("fault() of \"" + text + "\"", place, x.fault());
        CHECK.is("minutes behind \"" + text + "\"", 8, x.minutes(0, 0, 0));
        CHECK.is("count(1) behind \"" + text + "\"", 0, x.count(1));
    }

    private static void lawFaults() {
        CHECK.promise(4, "law, faults");
        lawFault("", 1, 0);
        lawFault("   ", 1, 3);
        lawFault("ages", 1, 0);
        lawFault("ag", 1, 0);
        lawFault("1000", 2, 0);
        lawFault("1+1000*", 2, 2);
        lawFault("1 2", 1, 2);
        lawFault("1+", 1, 2);
        lawFault("1+ ", 1, 3);
        lawFault("1++1", 1, 2);
        lawFault("-1", 1, 0);
        lawFault("1-+1", 1, 2);
        lawFault("1*", 1, 2);
        lawFault("1**1", 1, 2);
        lawFault("(1", 1, 2);
        lawFault("(1]", 1, 2);
        lawFault("1)", 1, 1);
        lawFault("()", 1, 1);
        lawFault("least", 1, 5);
        lawFault("least(1,2)", 1, 5);
        lawFault("least [1]", 1, 8);
        lawFault("least[1,2", 1, 9);
        lawFault("least[1,2)", 1, 9);
        lawFault("most[,2]", 1, 5);
        lawFault("most[1,]", 1, 7);
        lawFault("length pace", 1, 7);
        lawFault("lengthpace", 1, 0);
        lawFault("length2", 1, 6);
        lawFault("2length", 1, 1);
        lawFault("1;", 1, 1);
        lawFault("1&2", 1, 1);
        lawFault("(((((((1)))))))", 3, 6);
        lawFault("((((((least", 3, 6);
        lawFault("((((((  most[1,2]))))))", 3, 8);
        lawFault("least[least[least[most[most[most[(1),2],2],2],2],2],2]", 3, 33);
        lawFault("least[2,least[2,least[2,most[2,most[2,most[2,(1)]]]]]]", 3, 45);
        lawFault("((((((1)))))) + (((((((1", 3, 22);
    }

    private static void works() {
        CHECK.promise(5, "work");
        HoopHours x = Check.withPark("walk 2 4;child 3 7;child 2 5;hoop 2;");
        CHECK.is("no steps", 0, Check.work(x, "  "));
        CHECK.is("count(2)", 1, x.count(2));
        CHECK.is("steps that are done", 3, Check.work(x, "give 0 0 ;roll; rest0;rest 0;give 0 0;"));
        CHECK.is("told(11)", 2, x.told(11));
        CHECK.is("agains are not counted", 4, Check.work(x, "again 2 [ again 2[rain;]; ];again 0[rain;];again 60[];"));
        CHECK.is("told(11)", 0, x.told(11));
        Check.feed(x, " ".repeat(150));
        CHECK.illegal("work(151)", () -> x.work(151));
        CHECK.illegal("work(-1)", () -> x.work(-1));
        CHECK.is("count(1), the tape stays", 160, x.count(1));
        CHECK.is("work(150)", 0, x.work(150));
        while (x.count(2) < 16) {
            Check.work(x, "rain;");
        }
        Check.work(x, "nonsense");
        CHECK.is("a 17th work with a fault", -20, Check.work(x, "nonsense"));
        CHECK.is("fault()", -1, x.fault());
        CHECK.is("count(1)", 0, x.count(1));
        Check.park(x, "nonsense");
        CHECK.is("fault()", 0, x.fault());
        CHECK.is("a 17th work", -20, Check.work(x, "rain;"));
        CHECK.is("fault()", -1, x.fault());
        CHECK.is("told(8), nothing is done", 0, x.told(8));
        CHECK.is("count(2)", 16, x.count(2));
        CHECK.illegal("work(1) ahead of -20", () -> x.work(1));
        x.undo();
        CHECK.is("a 16th work", 1, Check.work(x, "rain;"));
        CHECK.is("the next one", -20, Check.work(x, "rain;"));
    }

    private static void workFault(String text, int kind, int place) {
        HoopHours x = Check.with("walk 2 4;child 3 7;child 3 7;hoop 2;hoop 3;hoop 4;", "", "give 2 0;give 2 0;");
        CHECK.is("work of \"" + text + "\"", kind - 10, Check.work(x, text));
        CHECK.is("fault() of \"" + text + "\"", place, x.fault());
        CHECK.is("count(2) behind \"" + text + "\"", 1, x.count(2));
        CHECK.is("told(11) behind \"" + text + "\"", 1, x.told(11));
        CHECK.is("told(8) behind \"" + text + "\"", 0, x.told(8));
        CHECK.is("count(1) behind \"" + text + "\"", 0, x.count(1));
    }

    private static void workFaults() {
        CHECK.promise(5, "work, faults");
        workFault("rain;rolls;", 1, 5);
        workFault("rain;rollz;", 1, 5);
        workFault("rain;roll", 1, 9);
        workFault("rain;roll ", 1, 10);
        workFault("rain;roll 1;", 1, 10);
        workFault("rain;;", 1, 5);
        workFault("rain;]", 1, 5);
        workFault("give 3 0;", 2, 5);
        workFault("give 2 2;", 2, 7);
        workFault("give 2;", 1, 6);
        workFault("rain;rest 2;", 2, 10);
        workFault("rest;", 1, 4);
        workFault("bribe 2 1;", 2, 6);
        workFault("bribe 1 10;", 2, 8);
        workFault("bribe 1 0;", 2, 8);
        workFault("again 61 [];", 2, 6);
        workFault("again [];", 1, 6);
        workFault("again 1 rain;", 1, 8);
        workFault("again 1 [rain];", 1, 13);
        workFault("again 1 [rain;", 1, 14);
        workFault("again 1 [rain;]", 1, 15);
        workFault("again 1 [rain;] rain;", 1, 16);
        workFault("again 2 [give 0 9;", 2, 16);
        workFault("again 1 [".repeat(7), 3, 54);
        workFault("again 1 [".repeat(6) + "rain;  again", 3, 61);
        workFault("again 1 [".repeat(6) + "agains", 1, 54);
        HoopHours x = Check.withPark("");
        CHECK.is("again in six", 1, Check.work(x, "again 1[".repeat(6) + "rain;" + "];".repeat(6)));
        CHECK.is("one behind the other", 2, Check.work(x, "again 1[again 1[rain;];];".repeat(2)));
        CHECK.is("no hoop to give", -8, Check.work(x, "give 0 0;"));
        CHECK.is("fault()", 5, x.fault());
        CHECK.is("no child to rest", -8, Check.work(x, "rest 0;"));
    }

    private static void songs() {
        CHECK.promise(6, "songs");
        HoopHours x = Check.withPark("walk 1 1;walk 2 2;walk 3 3;child 1 3;hoop 1;");
        CHECK.is("two lines", 2, Check.songs(x, " 2 999; 1 0 ; "));
        CHECK.is("told(10)", 2, x.told(10));
        CHECK.is("one line, the others are gone", 1, Check.songs(x, "2 5;"));
        CHECK.is("told(10)", 1, x.told(10));
        CHECK.is("none", 0, Check.songs(x, ""));
        CHECK.is("told(10)", 0, x.told(10));
        Check.feed(x, " ".repeat(61));
        CHECK.illegal("songs(61)", () -> x.songs(61));
        CHECK.illegal("songs(-1)", () -> x.songs(-1));
        CHECK.is("count(1), the tape stays", 80, x.count(1));
        CHECK.is("songs(60)", 0, x.songs(60));
        CHECK.is("count(1)", 0, x.count(1));
        HoopHours y = Check.withPark("walk 1 1;".repeat(8));
        CHECK.is("seven lines", 7, Check.songs(y, "1 1;2 2;3 3;4 4;5 5;6 6;7 7;"));
    }

    private static void songFault(String text, int kind, int place) {
        HoopHours x = Check.withPark("walk 1 1;walk 2 2;walk 3 3;child 1 3;hoop 1;");
        Check.songs(x, "1 7;");
        CHECK.is("songs of \"" + text + "\"", kind - 10, Check.songs(x, text));
        CHECK.is("fault() of \"" + text + "\"", place, x.fault());
        CHECK.is("told(10) behind \"" + text + "\"", 1, x.told(10));
        CHECK.is("count(1) behind \"" + text + "\"", 0, x.count(1));
    }

    private static void songFaults() {
        CHECK.promise(6, "songs, faults");
        songFault("3 1;", 2, 0);
        songFault(" 0 1;", 2, 1);
        songFault("1 1000;", 2, 2);
        songFault("1 1;1 1;", 2, 4);
        songFault("2 1;1 1; 2", 2, 9);
        songFault("1 1", 1, 3);
        songFault("1;", 1, 1);
        songFault("1 1;x", 1, 4);
        songFault("1 1 1;", 1, 4);
        HoopHours x = Check.withPark("walk 1 1;");
        CHECK.is("one walk has no gate to hear at", -8, Check.songs(x, "1 1;"));
        x = new HoopHours();
        CHECK.is("no walks", -8, Check.songs(x, "0 1;"));
    }

    private static void faultPlaces() {
        CHECK.promise(7, "fault");
        HoopHours x = new HoopHours();
        CHECK.is("fault() ahead of any text", -1, x.fault());
        Check.park(x, "hoop 1;x");
        CHECK.is("fault()", 7, x.fault());
        CHECK.is("fault(), again", 7, x.fault());
        Check.feed(x, "1");
        CHECK.illegal("law(99)", () -> x.law(99));
        CHECK.is("fault() behind the exception", 7, x.fault());
        x.law(1);
        CHECK.is("fault() of the latest text", -1, x.fault());
        Check.law(x, "1+");
        CHECK.is("fault()", 2, x.fault());
        Check.songs(x, "");
        CHECK.is("fault()", -1, x.fault());
    }
}
