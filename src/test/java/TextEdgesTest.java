/** Promises 2 to 7: each boundary that the document tells of the tape, of the four texts and of their faults. */
public final class TextEdgesTest {
    private static final Check CHECK = new Check();
    private static final String PLAIN = "walk 2 4;walk 5 0;walk 3 16;child 3 7;child 6 10;hoop 2;hoop 5;";
    private static final String ZEROS = "0".repeat(40);
    /** Numbers that are 1 or 5 if they wrap round at 8, 16, 32 or 64 bits. */
    private static final String[] WRAPPING = {"257", "65537", "4294967297", "4294967301", "18446744073709551617",
        "18446744073709551621", "340282366920938463463374607431768211457"};

    public static void main(String[] args) {
        tape();
        bytesOfTexts();
        clauses();
        numbersOfParks();
        longsAndFines();
        numbersOfLaws();
        numbersOfWorks();
        numbersOfSongs();
        digits();
        words();
        blanks();
        endsTooEarly();
        firstFromTheLeft();
        openAtOneTime();
        leastOfOnePlace();
        sixteenWorks();
        whatStays();
        places();
        CHECK.end();
    }

    private static void fault(String what, HoopHours x, String text, int kind, int place) {
        int got = tell(what, x, text);
        CHECK.is(what + " of \"" + text + "\"", kind - 10, got);
        CHECK.is("fault() of \"" + text + "\"", place, x.fault());
        CHECK.is("count(1) behind \"" + text + "\"", 0, x.count(1));
    }

    private static void right(String what, HoopHours x, String text, int due) {
        CHECK.is(what + " of \"" + text + "\"", due, tell(what, x, text));
        CHECK.is("fault() of \"" + text + "\"", -1, x.fault());
        CHECK.is("count(1) behind \"" + text + "\"", 0, x.count(1));
    }

    private static int tell(String what, HoopHours x, String text) {
        switch (what) {
            case "park": return Check.park(x, text);
            case "law": return Check.law(x, text);
            case "work": return Check.work(x, text);
            default: return Check.songs(x, text);
        }
    }

    private static HoopHours plain() {
        return Check.withPark(PLAIN);
    }

    private static void tape() {
        CHECK.promise(2, "feed, no more than 600 bytes");
        HoopHours x = new HoopHours();
        for (int many = 20; many <= 600; many += 20) {
            CHECK.is("feed", many, x.feed(0x686f6f70, 0x20313b20, 0x20202020, 0x20202020, 0x20202020));
        }
        CHECK.is("feed of 20 more", -1, x.feed(0x78787878, 0x78787878, 0x78787878, 0x78787878, 0x78787878));
        CHECK.is("count(1), doing nothing", 600, x.count(1));
        CHECK.is("feed of 20 more, again", -1, x.feed(0, 0, 0, 0, 0));
        CHECK.is("park(160), the bytes are as before", 8, x.park(160));
        CHECK.is("feed on the empty tape", 20, x.feed(0x78202020, 0x20202020, 0x20202020, 0x20202020, 0x20202020));
        CHECK.is("law(1), the bytes from the first on", -9, x.law(1));
        CHECK.is("fault()", 0, x.fault());
        CHECK.promise(2, "feed, of each number the highest first");
        HoopHours y = new HoopHours();
        y.feed(0x77616c6b, 0x20322034, 0x3b686f6f, 0x7020373b, 0x66696e65);
        CHECK.is("feed", 40, y.feed(0x20333b78, 0, 0, 0, 0));
        CHECK.is("park of \"walk 2 4;hoop 7;fine 3;\"", 1, y.park(23));
        CHECK.is("walk(0, 0)", 2, y.walk(0, 0));
        CHECK.is("walk(0, 1)", 4, y.walk(0, 1));
        CHECK.is("hoop(0, 0)", 7, y.hoop(0, 0));
        for (int place = 0; place < 20; place++) {
            HoopHours z = new HoopHours();
            int[] n = {0x20202020, 0x20202020, 0x20202020, 0x20202020, 0x20202020};
            n[place / 4] = 0x20202020 - (0x20 << 24 - place % 4 * 8) + (0xff << 24 - place % 4 * 8);
            z.feed(n[0], n[1], n[2], n[3], n[4]);
            CHECK.is("park of a byte 255 at " + place, -9, z.park(20));
            CHECK.is("fault() of a byte 255 at " + place, place, z.fault());
        }
    }

    private static void bytesOfTexts() {
        CHECK.promise(3, "park, 600 bytes");
        HoopHours x = new HoopHours();
        right("park", x, "hoop 1" + " ".repeat(593) + ";", 1);
        Check.feed(x, "hoop 1" + " ".repeat(593) + ";");
        CHECK.is("park(599), its last byte is left out", -9, x.park(599));
        CHECK.is("fault()", 599, x.fault());
        Check.feed(x, " ".repeat(600));
        CHECK.illegal("park(601)", () -> x.park(601));
        CHECK.is("park(600)", 0, x.park(600));
        CHECK.promise(3, "park, the first n bytes of the tape");
        Check.feed(x, "hoop 1;hoop 2;hoop 3;");
        CHECK.is("park(14)", 2, x.park(14));
        Check.feed(x, "hoop 1;hoop 2;hoop 3;");
        CHECK.is("park(0)", 0, x.park(0));
        CHECK.is("count(1), it is empty then", 0, x.count(1));
        CHECK.is("told(2)", 0, x.told(2));
        CHECK.promise(4, "law, 150 bytes");
        HoopHours y = plain();
        right("law", y, "(" + " ".repeat(147) + "8)", 1);
        CHECK.is("minutes(0, 0, 0)", 8, y.minutes(0, 0, 0));
        Check.feed(y, "(" + " ".repeat(147) + "8)");
        CHECK.is("law(149), its last byte is left out", -9, y.law(149));
        CHECK.is("fault()", 149, y.fault());
        Check.feed(y, "7" + " ".repeat(159));
        CHECK.illegal("law(151)", () -> y.law(151));
        CHECK.is("law(150)", 1, y.law(150));
        Check.feed(y, "78");
        CHECK.is("law(1)", 1, y.law(1));
        CHECK.is("minutes(0, 0, 0)", 7, y.minutes(0, 0, 0));
        CHECK.promise(5, "work, 150 bytes");
        right("work", y, "rain;".repeat(30), 30);
        Check.feed(y, "rain;".repeat(30));
        CHECK.is("work(149), its last byte is left out", -9, y.work(149));
        CHECK.is("fault()", 149, y.fault());
        Check.feed(y, "rain;".repeat(32));
        CHECK.illegal("work(151)", () -> y.work(151));
        CHECK.is("work(150)", 30, y.work(150));
        CHECK.promise(6, "songs, 60 bytes");
        right("songs", y, "1 5; 2 " + " ".repeat(51) + "7;", 2);
        Check.feed(y, "1 5; 2 " + " ".repeat(51) + "7;");
        CHECK.is("songs(59), its last byte is left out", -9, y.songs(59));
        CHECK.is("fault()", 59, y.fault());
        Check.feed(y, "1 5;" + " ".repeat(76));
        CHECK.illegal("songs(61)", () -> y.songs(61));
        CHECK.is("songs(60)", 1, y.songs(60));
    }

    private static void clauses() {
        CHECK.promise(3, "park, at most 60 clauses, 8 of walks, children and hoops");
        HoopHours x = new HoopHours();
        right("park", x, "long 9;".repeat(59), 0);
        right("park", x, "long 9;".repeat(60), 0);
        fault("park", x, "long 9;".repeat(61), 3, 420);
        right("park", x, "fine 9;".repeat(59) + "hoop 9;", 1);
        fault("park", x, "fine 9;".repeat(60) + "hoop 9;", 3, 420);
        fault("park", x, "fine 9;".repeat(60) + "walk", 3, 420);
        right("park", x, "long 9;".repeat(30) + "fine 9;".repeat(30) + "   ", 0);
        fault("park", x, "long 9;".repeat(30) + "fine 9;".repeat(30) + "   child 1 3;", 3, 423);
        String[] each = {"walk 1 1;", "child 1 3;", "hoop 1;"};
        for (int i = 0; i < 3; i++) {
            HoopHours y = new HoopHours();
            right("park", y, each[i].repeat(7), i == 2 ? 7 : 0);
            CHECK.is("told(" + i + ")", 7, y.told(i));
            right("park", y, each[i].repeat(8), i == 2 ? 8 : 0);
            CHECK.is("told(" + i + ")", 8, y.told(i));
            fault("park", y, each[i].repeat(9), 3, each[i].length() * 8);
            fault("park", y, each[i].repeat(8) + " " + each[i].substring(0, 5), 3, each[i].length() * 8 + 1);
            fault("park", y, each[i].repeat(8) + "fine 1;" + each[i], 3, each[i].length() * 8 + 7);
            CHECK.is("told(" + i + ")", 8, y.told(i));
        }
        right("park", x, "hoop 1;walk 1 1;child 1 3;".repeat(8), 8);
        CHECK.is("told(0) and told(1)", 88, x.told(0) * 10 + x.told(1));
        CHECK.promise(3, "park, without clauses");
        right("park", x, "", 0);
        right("park", x, "    ", 0);
    }

    /** A clause with one number at a bound, and beyond it. */
    private static void numbersOfParks() {
        CHECK.promise(3, "park, numbers at their bounds");
        String[] before = {"walk ", "walk 7 ", "child ", "child 7 ", "hoop ", "long ", "fine "};
        String[] behind = {" 1;", ";", " 5;", ";", ";", ";", ";"};
        int[][] bounds = {{1, 20}, {0, 16}, {1, 9}, {3, 14}, {1, 9}, {1, 500}, {0, 20}};
        for (int i = 0; i < bounds.length; i++) {
            for (int n = bounds[i][0]; n <= bounds[i][1]; n++) {
                HoopHours x = new HoopHours();
                right("park", x, before[i] + n + behind[i], i == 4 ? 1 : 0);
                int got = i < 2 ? x.walk(0, i) : i < 4 ? x.child(0, i - 2) : i < 5 ? x.hoop(0, 0) : n;
                CHECK.is("what is told of it", n, got);
            }
            for (int n : new int[] {bounds[i][0] - 1, bounds[i][1] + 1, 1000, 999999999}) {
                if (n >= 0) {
                    fault("park", new HoopHours(), before[i] + n + behind[i], 2, before[i].length());
                }
            }
            for (String n : WRAPPING) {
                if (i != 5 || !n.equals("257")) {
                    fault("park", new HoopHours(), before[i] + n + behind[i], 2, before[i].length());
                }
            }
            fault("park", new HoopHours(), before[i] + "-1" + behind[i], 1, before[i].length());
            fault("park", new HoopHours(), before[i] + "+1" + behind[i], 1, before[i].length());
        }
    }

    private static void tooLong(String clauses, String law, int hoursTooLong, int owed) {
        HoopHours x = Check.with("walk 1 0;".repeat(8) + "child 9 3;hoop 1;" + clauses, law, "give 0 0;again 8 [roll;];");
        CHECK.is("hours that were too long by \"" + clauses + "\" and " + law, hoursTooLong, x.told(12));
        CHECK.is("what is owed by \"" + clauses + "\" and " + law, owed, x.child(0, 4));
    }

    private static void longsAndFines() {
        CHECK.promise(3, "park, too long above N, 60 without; a fine, 5 without; the last counts");
        String sum = " * (1 - least[walk, 1]) + 1";
        tooLong("", "(60 - 8)" + sum, 0, 0);
        tooLong("", "(61 - 8)" + sum, 1, 5);
        tooLong("long 500;", "60 + 20" + sum.replace("+ 1", ""), 0, 0);
        tooLong("long 500;", "60 + 21" + sum.replace("+ 1", ""), 1, 5);
        tooLong("long 499;", "60 + 20" + sum.replace("+ 1", ""), 1, 5);
        tooLong("long 8;", "1", 0, 0);
        tooLong("long 7;", "1", 1, 5);
        tooLong("long 1;", "1", 1, 5);
        tooLong("long 7;long 8;", "1", 0, 0);
        tooLong("long 8;long 7;", "1", 1, 5);
        tooLong("long 1;long 2;long 500;long 7;fine 20;", "1", 1, 20);
        tooLong("long 7;fine 20;fine 19;", "1", 1, 19);
        tooLong("fine 0;long 7;fine 1;", "1", 1, 1);
        tooLong("fine 1;long 7;fine 0;", "1", 1, 0);
        HoopHours x = Check.with("walk 1 0;child 9 3;hoop 1;long 1;", "1", "give 0 0;roll;");
        CHECK.is("1 minute by long 1", 0, x.told(12));
        Check.law(x, "2");
        Check.work(x, "roll;");
        CHECK.is("2 minutes by long 1", 1, x.told(12));
        fault("park", new HoopHours(), "long 501;long 5;", 2, 5);
        fault("park", new HoopHours(), "fine 21;fine 5;", 2, 5);
    }

    private static void numbersOfLaws() {
        CHECK.promise(4, "law, N is 0 to 999");
        HoopHours x = plain();
        right("law", x, "0", 1);
        CHECK.is("minutes(0, 0, 0) by 0", 1, x.minutes(0, 0, 0));
        right("law", x, "998 - 909", 1);
        CHECK.is("minutes(0, 0, 0) by 998 - 909", 89, x.minutes(0, 0, 0));
        right("law", x, "999 - 909", 1);
        CHECK.is("minutes(0, 0, 0) by 999 - 909", 90, x.minutes(0, 0, 0));
        fault("law", x, "1000 - 909", 2, 0);
        fault("law", x, "999 - 1000", 2, 6);
        fault("law", x, "least[1, 1000]", 2, 9);
        fault("law", x, "4294967296", 2, 0);
        for (String n : WRAPPING) {
            if (!n.equals("257")) {
                fault("law", x, "5 + " + n, 2, 4);
            }
        }
        CHECK.is("minutes(0, 0, 0), as ahead of the faults", 90, x.minutes(0, 0, 0));
    }

    private static void numbersOfWorks() {
        CHECK.promise(5, "work, numbers at their bounds");
        HoopHours x = plain();
        right("work", x, "give 0 0;give 1 1;give 1 0;", 3);
        right("work", x, "bribe 0 1;bribe 1 9;rest 0;rest 1;", 2);
        CHECK.is("child(0, 3)", 1, x.child(0, 3));
        CHECK.is("child(1, 3)", 9, x.child(1, 3));
        right("work", x, "again 0 [rain;];again 60 [rain;];", 60);
        fault("work", x, "give 2 0;", 2, 5);
        fault("work", x, "give 0 2;", 2, 7);
        fault("work", x, "give 8 0;", 2, 5);
        fault("work", x, "rest 2;", 2, 5);
        fault("work", x, "bribe 2 1;", 2, 6);
        fault("work", x, "bribe 1 0;", 2, 8);
        fault("work", x, "bribe 1 10;", 2, 8);
        fault("work", x, "again 61 [rain;];", 2, 6);
        for (String n : WRAPPING) {
            fault("work", x, "give " + n + " 0;", 2, 5);
            fault("work", x, "give 0 " + n + ";", 2, 7);
            fault("work", x, "rest " + n + ";", 2, 5);
            fault("work", x, "bribe " + n + " 1;", 2, 6);
            fault("work", x, "bribe 1 " + n + ";", 2, 8);
            fault("work", x, "again " + n + " [];", 2, 6);
        }
        CHECK.promise(5, "work, no such hoop, no such child");
        HoopHours eight = Check.withPark("child 1 3;".repeat(8) + "hoop 1;".repeat(8));
        right("work", eight, "give 7 7;bribe 7 1;rest 7;", 2);
        fault("work", eight, "give 8 0;", 2, 5);
        fault("work", eight, "give 0 8;", 2, 7);
        HoopHours noHoop = Check.withPark("child 1 3;child 1 3;");
        right("work", noHoop, "bribe 1 1;", 1);
        fault("work", noHoop, "give 0 0;", 2, 5);
        HoopHours noChild = Check.withPark("hoop 1;");
        fault("work", noChild, "give 0 0;", 2, 7);
        fault("work", noChild, "rest 0;", 2, 5);
        fault("work", noChild, "bribe 0 1;", 2, 6);
        right("work", noChild, "rain;roll;", 1);
    }

    private static void numbersOfSongs() {
        CHECK.promise(6, "songs, numbers at their bounds");
        for (int walks = 0; walks <= 8; walks++) {
            HoopHours x = Check.withPark("walk 1 1;".repeat(walks));
            for (int gate = 0; gate <= 9; gate++) {
                if (gate >= 1 && gate < walks) {
                    right("songs", x, gate + " 7;", 1);
                } else {
                    fault("songs", x, gate + " 7;", 2, 0);
                }
            }
        }
        HoopHours x = plain();
        right("songs", x, "1 0;2 999;", 2);
        right("songs", x, "1 998;", 1);
        fault("songs", x, "1 1000;", 2, 2);
        for (String n : WRAPPING) {
            fault("songs", x, n + " 1;", 2, 0);
            if (!n.equals("257")) {
                fault("songs", x, "2 " + n + ";", 2, 2);
            }
        }
        CHECK.promise(6, "songs, no G twice");
        fault("songs", x, "1 5;1 5;", 2, 4);
        fault("songs", x, "2 5;1 6;2 7;", 2, 8);
        fault("songs", x, "1 5;2 5; 01 6;", 2, 9);
        right("songs", x, "1 5;2 5;", 2);
        right("songs", x, "2 5;1 5;", 2);
        right("songs", x, "1 8;", 1);
        CHECK.is("told(10), what was told before is gone", 1, x.told(10));
        fault("songs", x, "1 0;1", 2, 4);
    }

    private static void digits() {
        CHECK.promise(3, "park, digits, as many as stand there");
        HoopHours x = new HoopHours();
        right("park", x, "walk " + ZEROS + "20 " + ZEROS + ";child 0009 0014;hoop 00000009;long 0500;fine 000;", 1);
        CHECK.is("walk(0, 0)", 20, x.walk(0, 0));
        CHECK.is("walk(0, 1)", 0, x.walk(0, 1));
        CHECK.is("child(0, 1)", 14, x.child(0, 1));
        fault("park", x, "walk 12;", 1, 7);
        fault("park", x, "walk 1" + ZEROS + " 1;", 2, 5);
        fault("park", x, "hoop " + "9".repeat(300) + ";", 2, 5);
        fault("park", x, "hoop 1 2;", 1, 7);
        fault("park", x, "hoop 1.5;", 1, 6);
        fault("park", x, "hoop " + ZEROS + ";", 2, 5);
        CHECK.promise(4, "law, digits, as many as stand there");
        HoopHours y = plain();
        right("law", y, ZEROS + "17+000", 1);
        CHECK.is("minutes(0, 0, 0)", 17, y.minutes(0, 0, 0));
        fault("law", y, "0 1", 1, 2);
        fault("law", y, ZEROS + "1000", 2, 0);
        CHECK.promise(5, "work, digits, as many as stand there");
        right("work", y, "give 0001 0001;again 002[bribe 00 09;];", 3);
        CHECK.is("child(0, 3)", 18, y.child(0, 3));
        fault("work", y, "give 10;", 2, 5);
        fault("work", y, "give 01;", 1, 7);
        CHECK.promise(6, "songs, digits, as many as stand there");
        right("songs", y, ZEROS + "1 " + "0999;", 1);
        fault("songs", y, "15;", 2, 0);
        fault("songs", y, "1;", 1, 1);
    }

    private static void words() {
        CHECK.promise(3, "park, words, small letters, as many as stand there");
        HoopHours x = new HoopHours();
        right("park", x, "hoop1;walk1 1;child1 3;long1;fine1;", 1);
        String[] none = {"hoo 1;", "hoops 1;", "hoopa1;", "hoophoop 1;", "Hoop 1;", "hooP 1;", "HOOP 1;", "h oop 1;", "gate 1;",
            "x", "roll;", "give 0 0;", "again 1[];", "least", "1;", ";", "[", "(", "-", "\0", "\u00e8oop 1;", "\u0068o\u00f6p 1;"};
        for (String text : none) {
            fault("park", x, text, 1, 0);
            fault("park", x, "hoop 1; " + text, 1, 8);
        }
        CHECK.promise(4, "law, words, small letters, as many as stand there");
        HoopHours y = plain();
        String[] words = {"length", "pace", "age", "weight", "tired", "rain", "walk", "hoop", "bribe"};
        for (String word : words) {
            right("law", y, word, 1);
            right("law", y, " 1 +" + word + "*2", 1);
            fault("law", y, word + "s", 1, 0);
            fault("law", y, word.substring(1), 1, 0);
            fault("law", y, word.substring(0, word.length() - 1), 1, 0);
            fault("law", y, "1 + " + word.toUpperCase(), 1, 4);
            fault("law", y, word + word, 1, 0);
            fault("law", y, word + " " + word, 1, word.length() + 1);
            fault("law", y, word + "1", 1, word.length());
            fault("law", y, "1" + word, 1, 1);
        }
        fault("law", y, "leastx[1,2]", 1, 0);
        fault("law", y, "leas[1,2]", 1, 0);
        fault("law", y, "mostly[1,2]", 1, 0);
        fault("law", y, "child", 1, 0);
        fault("law", y, "gate", 1, 0);
        CHECK.promise(5, "work, words, small letters, as many as stand there");
        right("work", y, "give0 0;bribe0 1;rest0;again1[];roll;rain;", 4);
        String[] steps = {"giv 0 0;", "gives 0 0;", "Roll;", "rol;", "rolls;", "rainy;", "rests 0;", "bribes 0 1;", "againx 1 [];",
            "hoop 1;", "rollroll;", "0;", ";", "[];", ")", "(roll;);"};
        for (String text : steps) {
            fault("work", y, text, 1, 0);
            fault("work", y, "again 1 [" + text, 1, 9);
        }
        fault("work", y, "]", 1, 0);
        fault("work", y, "rain;];", 1, 5);
        fault("work", y, "again 1 []; ];", 1, 12);
        CHECK.promise(6, "songs, no words");
        fault("songs", y, "gate 1 5;", 1, 0);
        fault("songs", y, "1 x;", 1, 2);
        fault("songs", y, "1 5;roll", 1, 4);
        fault("songs", y, ";", 1, 0);
    }

    private static void blanks() {
        CHECK.promise(3, "park, blanks ahead of all, and at the end");
        HoopHours x = new HoopHours();
        right("park", x, "   walk   2   4   ;   hoop   3   ;   ", 1);
        for (char other : new char[] {0, 9, 10, 13, 31, 33, 127, 160, 255}) {
            fault("park", x, other + "hoop 1;", 1, 0);
            fault("park", x, "hoop" + other + "1;", 1, 4);
            fault("park", x, "hoop 1" + other + ";", 1, 6);
            fault("park", x, "hoop 1;" + other, 1, 7);
            fault("park", x, "hoop 1; " + other, 1, 8);
        }
        fault("park", x, "hoop 1 0;", 1, 7);
        fault("park", x, "walk 1 1 1;", 1, 9);
        CHECK.promise(4, "law, blanks ahead of all, and at the end");
        HoopHours y = plain();
        right("law", y, "  least  [  9  ,  most  [  (  4  +  3  )  ,  2  ]  ]  *  5  -  1  ", 1);
        CHECK.is("minutes(0, 0, 0)", 34, y.minutes(0, 0, 0));
        right("law", y, "least[9,most[(4+3),2]]*5-1", 1);
        CHECK.is("minutes(0, 0, 0)", 34, y.minutes(0, 0, 0));
        fault("law", y, "1\t+ 1", 1, 1);
        fault("law", y, "1 + 1\n", 1, 5);
        fault("law", y, "le ast[1,2]", 1, 0);
        CHECK.promise(5, "work, blanks ahead of all, and at the end");
        right("work", y, "  give  1  1  ;  again  2  [  bribe  0  3  ;  rain  ;  ]  ;  ", 5);
        fault("work", y, "rain;\t", 1, 5);
        fault("work", y, "again 1 [\train;];", 1, 9);
        CHECK.promise(6, "songs, blanks ahead of all, and at the end");
        right("songs", y, "  1  5  ;  2  7  ;  ", 2);
        fault("songs", y, "1 5\t;", 1, 3);
        fault("songs", y, "1\u00a05;", 1, 1);
    }

    private static void endsTooEarly() {
        CHECK.promise(3, "park, at the length, if the text ends too early");
        String[] parks = {"walk", "walk ", "walk 2", "walk 2 ", "walk 2 4", "walk 2 4 ", "child 3", "hoop", "hoop 1", "long 5  ",
            "fine", "hoop 1;walk", "hoop 1; walk 20 16"};
        for (String text : parks) {
            fault("park", new HoopHours(), text, 1, text.length());
        }
        CHECK.promise(4, "law, at the length, if the text ends too early");
        String[] laws = {"", " ", "   ", "1 +", "1 + ", "2 *", "2 / ", "2 %", "1 -", "(", "( 1", "(1+", "least", "least ", "least[",
            "least[1", "least[1,", "least[1,2", "most[1,2 ", "((1)", "1 + (2", "((((((1)))))"};
        for (String text : laws) {
            fault("law", plain(), text, 1, text.length());
        }
        CHECK.promise(5, "work, at the length, if the text ends too early");
        String[] works = {"give", "give 0", "give 0 0", "roll", "roll ", "rain", "rest", "rest 0", "bribe", "bribe 0", "bribe 0 1",
            "again", "again 1", "again 1 [", "again 1 [rain", "again 1 [rain;", "again 1 [rain;]", "again 1 [] ", "rain;roll"};
        for (String text : works) {
            fault("work", plain(), text, 1, text.length());
        }
        CHECK.promise(6, "songs, at the length, if the text ends too early");
        String[] songs = {"1", "1 ", "1 5", "1 5 ", "1 5;2", "1 5;2 7  "};
        for (String text : songs) {
            fault("songs", plain(), text, 1, text.length());
        }
    }

    private static void firstFromTheLeft() {
        CHECK.promise(7, "fault, the first from the left, at its first byte");
        HoopHours x = new HoopHours();
        fault("park", x, "hoop 0;walk x;", 2, 5);
        fault("park", x, "walk x;hoop 0;", 1, 5);
        fault("park", x, "walk 21 17;", 2, 5);
        fault("park", x, "walk 21 x", 2, 5);
        fault("park", x, "walk x 17;", 1, 5);
        fault("park", x, "child 10", 2, 6);
        fault("park", x, "hoop 1;".repeat(8) + "hoop 0 x", 3, 56);
        fault("park", x, "hoop 1;".repeat(7) + "hoop 0;hoop 1;hoop 1;", 2, 54);
        fault("park", x, "walk    21 17;", 2, 8);
        HoopHours y = plain();
        fault("law", y, "1000 + ", 2, 0);
        fault("law", y, "1 + x + 1000", 1, 4);
        fault("law", y, "((((((1000 + (", 2, 6);
        fault("law", y, "((((((( 1000", 3, 6);
        fault("law", y, "1 + 1 )", 1, 6);
        fault("law", y, "1 ] + 1000", 1, 2);
        fault("work", y, "give 9 9;roll", 2, 5);
        fault("work", y, "give 0 9 9;", 2, 7);
        fault("work", y, "bribe 5 50;", 2, 6);
        fault("work", y, "again 61 [give 9 9;", 2, 6);
        fault("work", y, "again 1 [give 0 9;", 2, 16);
        fault("work", y, "again 1 {give 0 9;", 1, 8);
        fault("songs", y, "3 1000;", 2, 0);
        fault("songs", y, "1 1000;1 5;", 2, 2);
        fault("songs", y, "1 5;1 1000;", 2, 4);
        fault("songs", y, "1 5;x 1000;", 1, 4);
    }

    private static void openAtOneTime() {
        CHECK.promise(4, "law, a 7th of ( least most that is open at one time");
        HoopHours x = plain();
        String[] open = {"(", "least[", "most["};
        String[] close = {")", ",0]", ",0]"};
        for (int i = 0; i < 3; i++) {
            for (int k = 0; k < 3; k++) {
                String six = open[i].repeat(6);
                right("law", x, six + "1" + close[i].repeat(6) + "+" + open[k] + "1" + close[k], 1);
                right("law", x, open[i].repeat(5) + open[k] + "1" + close[k] + close[i].repeat(5), 1);
                fault("law", x, six + open[k] + "1" + close[k] + close[i].repeat(6), 3, six.length());
                fault("law", x, six + "1 * " + open[k], 3, six.length() + 4);
            }
        }
        right("law", x, "least[0,least[0,least[0,most[0,most[0,(1)]]]]]", 1);
        fault("law", x, "least[0,least[0,least[0,most[0,most[0,((1))]]]]]", 3, 39);
        right("law", x, "((((((1))))))+((((((1))))))*((((((1))))))", 1);
        right("law", x, "((((((1)))))+(((((1))))))", 1);
        fault("law", x, "((((((1)))))+((((((1)))))))", 3, 18);
        fault("law", x, "((((((1))))))+(((((((1)))))))", 3, 20);
        CHECK.promise(5, "work, a 7th again that is open at one time");
        right("work", x, "again 1[".repeat(6) + "rain;" + "];".repeat(6) + "again 1[".repeat(2) + "];".repeat(2), 1);
        right("work", x, "again 1[".repeat(5) + "again 1[rain;];".repeat(3) + "];".repeat(5), 3);
        fault("work", x, "again 1[".repeat(6) + "again 1[];" + "];".repeat(6), 3, 48);
        fault("work", x, "again 1[".repeat(6) + "rain; again", 3, 54);
        fault("work", x, "again 1[".repeat(5) + "again 1[];again 1[again", 3, 58);
    }

    private static void leastOfOnePlace() {
        CHECK.promise(7, "fault, of one place the least");
        HoopHours x = new HoopHours();
        fault("park", x, "fine 1;".repeat(60) + "nothing", 1, 420);
        fault("park", x, "fine 1;".repeat(60) + "1", 1, 420);
        fault("park", x, "fine 1;".repeat(60) + " ;", 1, 421);
        fault("park", x, "fine 1;".repeat(60) + "long", 3, 420);
        fault("park", x, "hoop 1;".repeat(8) + "hoops 1;", 1, 56);
        HoopHours y = plain();
        fault("law", y, "((((((leasts[", 1, 6);
        fault("law", y, "((((((mos", 1, 6);
        fault("law", y, "((((((]", 1, 6);
        fault("law", y, "((((((least", 3, 6);
        fault("work", y, "again 1[".repeat(6) + "agains 1", 1, 48);
        fault("work", y, "again 1[".repeat(6) + "again", 3, 48);
    }

    private static void sixteenWorks() {
        CHECK.promise(5, "work, -20 behind the exception, ahead of the fault");
        HoopHours x = plain();
        for (int i = 1; i <= 15; i++) {
            Check.work(x, "rain;");
        }
        right("work", x, "rain;", 1);
        CHECK.is("count(2)", 16, x.count(2));
        Check.feed(x, "rain;");
        CHECK.illegal("work(21)", () -> x.work(21));
        CHECK.illegal("work(-1)", () -> x.work(-1));
        CHECK.is("count(1) behind the exception", 20, x.count(1));
        CHECK.is("work(5)", -20, x.work(5));
        CHECK.is("count(1) behind -20", 0, x.count(1));
        CHECK.is("told(8), nothing is done", 0, x.told(8));
        Check.songs(x, "x");
        CHECK.is("fault() of the songs", 0, x.fault());
        CHECK.is("a text with a fault", -20, Check.work(x, "rain;x"));
        CHECK.is("fault(), there is none", -1, x.fault());
        CHECK.is("an empty text", -20, x.work(0));
        x.undo();
        fault("work", x, "rain;x", 1, 5);
        CHECK.is("count(2), one with a fault is none", 15, x.count(2));
        right("work", x, "", 0);
        CHECK.is("count(2)", 16, x.count(2));
        CHECK.is("the next one", -20, Check.work(x, ""));
        HoopHours y = plain();
        for (int i = 0; i < 16; i++) {
            right("work", y, i % 2 == 0 ? "" : "rest 0;", 0);
        }
        CHECK.is("16 works of no steps, or with all refused", -20, Check.work(y, ""));
        Check.park(y, PLAIN);
        right("work", y, "rain;", 1);
    }

    private static void whatStays() {
        CHECK.promise(3, "park, a fault: all but the tape stays");
        HoopHours x = Check.with(PLAIN + "long 9;fine 3;", "tired + 4", "give 0 0;give 0 0;rain;roll;bribe 1 4;");
        Check.songs(x, "1 4;");
        x.image();
        for (String text : new String[] {"walk 1 1;child 9 9;hoop 9;long 1;fine 20;x", "hoop 0;", "hoop 1;".repeat(9)}) {
            java.util.List<Integer> before = Look.at(x);
            CHECK.is("park of \"" + text + "\" is a fault", 1, Check.park(x, text) < 0 ? 1 : 0);
            CHECK.same("behind a park with a fault", before, Look.at(x));
            CHECK.is("count(1)", 0, x.count(1));
        }
        Check.work(x, "roll;roll;");
        CHECK.is("told(12), long 9 stays", 1, x.told(12));
        CHECK.is("told(9), fine 3 stays", 3, x.told(9));
        CHECK.promise(4, "law, a fault: all but the tape stays");
        java.util.List<Integer> before = Look.at(x);
        CHECK.is("law with a fault at its end", -9, Check.law(x, "9 + 9 x"));
        CHECK.is("law with a fault at its beginning", -8, Check.law(x, "1000"));
        CHECK.same("behind a law with a fault", before, Look.at(x));
        CHECK.promise(5, "work, a fault: none is done");
        CHECK.is("work with a fault at its end", -9, Check.work(x, "rain;roll;give 0 1;bribe 0 9;rest 0;x"));
        CHECK.same("behind a work with a fault", before, Look.at(x));
        CHECK.promise(6, "songs, a fault: all but the tape stays");
        CHECK.is("songs with a fault at their end", -9, Check.songs(x, "2 5;1 9"));
        CHECK.same("behind songs with a fault", before, Look.at(x));
        CHECK.promise(4, "law, a fault ahead of any law");
        HoopHours y = plain();
        Check.law(y, "9 + ");
        CHECK.is("minutes(0, 0, 0)", 6, y.minutes(0, 0, 0));
        CHECK.promise(6, "songs, no lines");
        Check.songs(y, "1 4;");
        right("songs", y, "", 0);
        CHECK.is("fits(0) without songs", 4, y.fits(0));
    }

    private static void places() {
        CHECK.promise(7, "fault, NONE without, and of the latest text");
        HoopHours x = new HoopHours();
        CHECK.is("fault() ahead of any text", -1, x.fault());
        String[] texts = {"park", "law", "work", "songs"};
        for (String bad : texts) {
            for (String good : texts) {
                HoopHours y = plain();
                tell(bad, y, "  !");
                CHECK.is("fault() of " + bad, 2, y.fault());
                y.undo();
                y.restore();
                y.image();
                CHECK.illegal("told(99)", () -> y.told(99));
                y.feed(0, 0, 0, 0, 0);
                CHECK.illegal(good + "(21)", () -> good.equals("park") ? y.park(21) : good.equals("law") ? y.law(21)
                    : good.equals("work") ? y.work(21) : y.songs(21));
                CHECK.is("fault(), no text since", 2, y.fault());
                y.park(0);
                tell(bad, y, "!");
                CHECK.is("fault() of " + bad, 0, y.fault());
                tell(good, y, good.equals("law") ? "1" : "");
                CHECK.is("fault() of " + good, -1, y.fault());
            }
        }
    }
}
