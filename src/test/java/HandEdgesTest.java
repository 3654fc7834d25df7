/** Edges of times, OUT, beats, UNDO, JUDGED and MARKS: section 2, promises 5 to 11, 45 and 46. */
public final class HandEdgesTest {
    private static final Check CHECK = new Check("HandEdgesTest");
    private static final int[] FAR = {Integer.MIN_VALUE, -1000, -2, Integer.MAX_VALUE};
    private static final String TWO = "person a plain beats 60;person b plain beats 60;";

    public static void main(String[] args) {
        times0To719();
        trueTime();
        outFrom360BehindTo359Ahead();
        quarterOfTheBeatsCut();
        eachFourthQuarter();
        byNumbers();
        firstOneSecondOne();
        frights160AtMost();
        soothes20AtLeast();
        by1To60();
        refusedCallsChangeNothing();
        undoTheLast16();
        undoOneByOne();
        undoLeavesTheRest();
        judged60Minutes();
        judgedFromTheBegin();
        judgedByHowMuch();
        judgedWhat();
        marks0To3();
        marksHold();
        personWhat();
        countWhat();
        for512Calls();
        CHECK.end();
    }

    /** The time of one behind a QUARTER. */
    private static int timeBehind(String kind, int beats, int time) {
        WristPort x = Check.with("person a " + kind + " beats " + beats + ";sets a " + time + ";");
        x.quarter();
        return x.person(0, 2);
    }

    /** "Times are minutes of twelve hours, 0 to 719, behind that 0 again". */
    private static void times0To719() {
        CHECK.due("719", timeBehind("plain", 60, 704), 719);
        CHECK.due("0 again", timeBehind("plain", 60, 705), 0);
        CHECK.due("1", timeBehind("plain", 60, 706), 1);
        CHECK.due("the quickest", timeBehind("child", 160, 719), 41);
        CHECK.due("the quickest, to 0", timeBehind("child", 160, 678), 0);
        CHECK.due("the slowest", timeBehind("old", 20, 716), 719);
        CHECK.due("the slowest, to 0", timeBehind("old", 20, 717), 0);
        CHECK.due("from 0", timeBehind("old", 20, 0), 3);
        WristPort x = Check.with("person a child beats 160;");
        int time = 0;
        for (int q = 0; q < 100; q++) {
            x.quarter();
            time = (time + 42) % 720;
            CHECK.due("round and round", x.person(0, 2), time);
        }
    }

    /** "true time is 15 minutes a quarter". */
    private static void trueTime() {
        WristPort x = new WristPort();
        for (int q = 1; q <= 100; q++) {
            CHECK.due("quarter " + q, x.quarter(), q * 15 % 720);
            CHECK.due("true time", x.count(2), q * 15 % 720);
            CHECK.due("QUARTERS", x.count(1), q);
        }
        x = new WristPort();
        for (int q = 1; q <= 47; q++) {
            x.quarter();
        }
        CHECK.due("the last quarter", x.count(2), 705);
        CHECK.due("twelve o'clock", x.quarter(), 0);
        CHECK.due("and on", x.quarter(), 15);
    }

    /** "OUT: a time less true time, -360 to 359 (round the twelve hours)". */
    private static void outFrom360BehindTo359Ahead() {
        int[][] due = {{0, 0}, {1, 1}, {358, 358}, {359, 359}, {360, -360}, {361, -359}, {718, -2}, {719, -1}};
        for (int[] one : due) {
            CHECK.due("at 0", Check.with("person a plain beats 60;sets a " + one[0] + ";").person(0, 3), one[1]);
        }
        // At 705 true time: all times, by one who goes on rightly.
        for (int out = -360; out <= 359; out++) {
            WristPort x = Check.with("person a plain beats 60;sets a " + (out + 720) % 720 + ";");
            CHECK.due("at once", x.person(0, 3), out);
            CHECK.due("behind 47", x.later(0, 47), out);
            CHECK.due("who is OUT", x.count(5), out == 0 ? 0 : 1);
        }
        WristPort x = Check.with("person a plain beats 64;person b plain beats 56;sets a 359;sets b 360;");
        x.quarter();
        CHECK.due("from 359 to -360", x.person(0, 3), -360);
        CHECK.due("from -360 to 359", x.person(1, 3), 359);
    }

    /** "each time goes on by a quarter of the beats, cut, a child's by 2 more, an old one's by 2 less". */
    private static void quarterOfTheBeatsCut() {
        int[][] cut = {{20, 5}, {23, 5}, {24, 6}, {59, 14}, {60, 15}, {63, 15}, {64, 16}, {159, 39}, {160, 40}};
        for (int[] one : cut) {
            CHECK.due("plain " + one[0], timeBehind("plain", one[0], 100), 100 + one[1]);
            CHECK.due("calm " + one[0], timeBehind("calm", one[0], 100), 100 + one[1]);
            CHECK.due("child " + one[0], timeBehind("child", one[0], 100), 102 + one[1]);
            CHECK.due("old " + one[0], timeBehind("old", one[0], 100), 98 + one[1]);
        }
    }

    /** "on the hour (each fourth quarter)". */
    private static void eachFourthQuarter() {
        WristPort x = Check.with(TWO + "sets a 5;asks a b;");
        for (int q = 1; q <= 49; q++) {
            x.quarter();
            CHECK.due("asked behind " + q, x.count(4), q / 4);
            CHECK.due("who was", x.person(1, 4), q / 4);
            CHECK.due("out", x.person(0, 3), q < 4 ? 5 : 0);
        }
        x = Check.with(TWO);
        for (int q = 1; q <= 8; q++) {
            x.quarter();
        }
        CHECK.due("nobody asks", x.count(4), 0);
    }

    /** "by numbers, each who asks one ASKS that one". */
    private static void byNumbers() {
        String three = "person a plain beats 60;person b plain beats 60;person c plain beats 60;sets a 1;sets b 2;sets c 3;";
        // The last: a takes c's 3; b takes a's 3; c takes b's 3.
        String[] who = {"asks a b;asks b c;", "asks b a;asks c b;", "asks a c;asks c b;asks b a;"};
        int[][] due = {{2, 3, 3}, {1, 1, 1}, {3, 3, 3}};
        for (int i = 0; i < 3; i++) {
            WristPort x = Check.with(three + who[i]);
            for (int q = 0; q < 4; q++) {
                x.quarter();
            }
            for (int p = 0; p < 3; p++) {
                CHECK.due(who[i] + " " + p, x.person(p, 3), due[i][p]);
            }
        }
        // Who was told first to ask asks by number all the same.
        WristPort x = Check.with(three + "asks b c;asks a b;");
        for (int q = 0; q < 4; q++) {
            x.quarter();
        }
        CHECK.due("a takes b's old time", x.person(0, 3), 2);
    }

    /** "ASK: the first one's time is the second one's; the second one was asked once more". */
    private static void firstOneSecondOne() {
        WristPort x = Check.with(TWO + "sets a 719;sets b 1;");
        CHECK.due("the time then", x.ask(0, 1), 1);
        CHECK.due("the first one's", x.person(0, 2), 1);
        CHECK.due("the second one's", x.person(1, 2), 1);
        CHECK.due("the first one was not asked", x.person(0, 4), 0);
        CHECK.due("the second one was", x.person(1, 4), 1);
        CHECK.due("the other way", x.ask(1, 0), 1);
        CHECK.due("the first one was asked", x.person(0, 4), 1);
        CHECK.due("a time of 719", Check.with(TWO + "sets b 719;").ask(0, 1), 719);
        CHECK.due("a time of 0", Check.with(TWO + "sets a 719;").ask(0, 1), 0);
    }

    /** "FRIGHT: so many beats more, 160 at most". */
    private static void frights160AtMost() {
        int[][] due = {{100, 59, 159}, {100, 60, 160}, {101, 60, 160}, {159, 1, 160}, {159, 2, 160}, {160, 1, 160},
            {160, 60, 160}, {20, 1, 21}, {20, 60, 80}};
        for (int[] one : due) {
            WristPort x = Check.with("person a calm beats " + one[0] + ";");
            CHECK.due(one[0] + " and " + one[1], x.fright(0, one[1]), one[2]);
            CHECK.due("beats", x.person(0, 1), one[2]);
            CHECK.due("it is done", x.count(9), 1);
        }
    }

    /** "SOOTHE: so many less, 20 at least". */
    private static void soothes20AtLeast() {
        int[][] due = {{80, 59, 21}, {80, 60, 20}, {79, 60, 20}, {21, 1, 20}, {21, 2, 20}, {20, 1, 20}, {20, 60, 20},
            {160, 1, 159}, {160, 60, 100}};
        for (int[] one : due) {
            WristPort x = Check.with("person a calm beats " + one[0] + ";");
            CHECK.due(one[0] + " less " + one[1], x.soothe(0, one[1]), one[2]);
            CHECK.due("beats", x.person(0, 1), one[2]);
            CHECK.due("it is done", x.count(9), 1);
        }
    }

    /** "FRIGHT (1 to 60)", "SOOTHE (1 to 60)"; "NONE: others". */
    private static void by1To60() {
        for (int by = -2; by <= 63; by++) {
            boolean fine = by >= 1 && by <= 60;
            CHECK.due("fright by " + by, Check.with("person a old beats 80;").fright(0, by), fine ? 80 + by : -1);
            CHECK.due("soothe by " + by, Check.with("person a old beats 80;").soothe(0, by), fine ? 80 - by : -1);
        }
        for (int by : FAR) {
            CHECK.due("fright by " + by, Check.with(TWO).fright(0, by), -1);
            CHECK.due("soothe by " + by, Check.with(TWO).soothe(0, by), -1);
        }
    }

    /** "NONE: others, the same": such calls change nothing and can't be undone. */
    private static void refusedCallsChangeNothing() {
        WristPort x = Check.with(TWO + "sets b 9;");
        x.quarter();
        String before = Check.all(x);
        int[] nobody = {-1, 2, 6, Integer.MIN_VALUE, Integer.MAX_VALUE};
        for (int bad : nobody) {
            CHECK.due("ask", x.ask(bad, 0), -1);
            CHECK.due("ask", x.ask(0, bad), -1);
            CHECK.due("ask", x.ask(bad, bad), -1);
            CHECK.due("fright", x.fright(bad, 1), -1);
            CHECK.due("soothe", x.soothe(bad, 1), -1);
            CHECK.due("mark", x.mark(bad == 2 ? 4 : bad, false), false);
            CHECK.due("see", x.see(bad, 0, 0), false);
            CHECK.due("tell", x.tell(bad == 2 || bad == 6 ? 41 : bad, 0), false);
        }
        CHECK.due("the same", x.ask(0, 0), -1);
        CHECK.due("the same", x.ask(1, 1), -1);
        CHECK.due("by 0", x.fright(0, 0), -1);
        CHECK.due("by 61", x.soothe(0, 61), -1);
        CHECK.due("no such MARK", x.mark(0, true), false);
        CHECK.dueSame("refused calls", x, before);
        CHECK.due("the QUARTER can be undone", x.undo(), true);
        CHECK.due("no more", x.undo(), false);
        WristPort none = new WristPort();
        before = Check.all(none);
        CHECK.due("nobody", none.ask(0, 1), -1);
        CHECK.due("nobody", none.fright(0, 1), -1);
        CHECK.due("nobody", none.soothe(0, 1), -1);
        CHECK.dueSame("nobody", none, before);
    }

    /** "UNDO: QUARTERS and these, the last 16". */
    private static void undoTheLast16() {
        for (int done = 0; done <= 40; done++) {
            WristPort x = Check.with(TWO);
            for (int i = 0; i < done; i++) {
                x.quarter();
            }
            int can = Math.min(done, 16);
            CHECK.due("what can be undone", x.count(9), can);
            for (int i = 1; i <= can; i++) {
                CHECK.due("undo", x.undo(), true);
                CHECK.due("QUARTERS", x.count(1), done - i);
                CHECK.due("what can be yet", x.count(9), can - i);
            }
            CHECK.due("nothing can be", x.undo(), false);
            CHECK.due("once more", x.undo(), false);
            CHECK.due("QUARTERS", x.count(1), done - can);
        }
        // Undone ones make room again.
        WristPort x = Check.with(TWO);
        for (int i = 0; i < 16; i++) {
            x.quarter();
        }
        x.undo();
        x.quarter();
        CHECK.due("16 again", x.count(9), 16);
        for (int i = 0; i < 16; i++) {
            CHECK.due("undo", x.undo(), true);
        }
        CHECK.due("to the begin", x.count(1), 0);
        CHECK.due("nothing can be", x.undo(), false);
    }

    /** ".. one by one": each kind of deed, backwards. */
    private static void undoOneByOne() {
        WristPort x = Check.with(TWO + "sets a 700;asks b a;moods asked;");
        String[] before = new String[16];
        for (int i = 0; i < 16; i++) {
            before[i] = Check.all(x);
            switch (i % 4) {
                case 0 -> x.ask(0, 1);
                case 1 -> x.fright(1, 40);
                case 2 -> x.soothe(0, 60);
                default -> x.quarter();
            }
        }
        for (int i = 15; i >= 0; i--) {
            CHECK.due("undo", x.undo(), true);
            CHECK.dueSame("undo of the deed " + i, x, before[i]);
        }
        CHECK.due("nothing can be", x.undo(), false);
        // A FRIGHT that could not move the beats whole is undone whole.
        x = Check.with("person a old beats 155;person b old beats 25;");
        x.fright(0, 60);
        x.soothe(1, 60);
        x.undo();
        x.undo();
        CHECK.due("155", x.person(0, 1), 155);
        CHECK.due("25", x.person(1, 1), 25);
    }

    /** Neither the DAY, nor what is SEEN and TOLD, nor MARKS, nor the TAPE are undone. */
    private static void undoLeavesTheRest() {
        WristPort x = Check.with(TWO);
        x.quarter();
        Check.day(x, "quarter;");
        x.see(0, 0, 0);
        x.tell(1, 0);
        x.mark(0, false);
        x.feed(0x20L, 0L, 0L);
        CHECK.due("these are not to be undone", x.count(9), 1);
        CHECK.due("undo", x.undo(), true);
        CHECK.due("the DAY", x.count(6), 1);
        CHECK.due("SEEN", x.count(7), 1);
        CHECK.due("TOLD", x.count(8), 1);
        CHECK.due("the TAPE", x.count(10), 1);
        CHECK.due("the MARK", x.mark(0, true), true);
        CHECK.due("as it was laid", x.count(1), 1);
    }

    /** "the first line (from 0) behind which one is 60 minutes OUT, or more". */
    private static void judged60Minutes() {
        int[][] due = {{59, -1}, {60, 0}, {61, 0}, {359, 0}, {360, 0}, {659, 0}, {660, 0}, {661, -1}, {0, -1}};
        for (int[] one : due) {
            WristPort x = Check.with(TWO + "sets b " + one[0] + ";");
            Check.day(x, "fright a 1;soothe a 1;");
            CHECK.due("at " + one[0], x.judged(0), one[1]);
            CHECK.due("how far", x.judged(1), Math.min(one[0], 720 - one[0]));
        }
        // 4 a QUARTER: 60 behind the 15th line, and more behind the last.
        WristPort x = Check.with("person a plain beats 76;");
        Check.day(x, "quarter;".repeat(14));
        CHECK.due("56", x.judged(0), -1);
        CHECK.due("56", x.judged(1), 56);
        Check.day(x, "quarter;".repeat(15));
        CHECK.due("60", x.judged(0), 14);
        CHECK.due("60", x.judged(1), 60);
        Check.day(x, "quarter;".repeat(40));
        CHECK.due("the first of them", x.judged(0), 14);
        CHECK.due("at last", x.judged(1), 160);
        // By the 40th line alone.
        x = Check.with(TWO + "sets b 60;");
        Check.day(x, "quarter;".repeat(39) + "ask a b;");
        CHECK.due("b was OUT from the first", x.judged(0), 0);
        x = Check.with("person a plain beats 20;");
        Check.day(x, "fright a 40;" + "quarter;".repeat(32) + "soothe a 40;" + "quarter;".repeat(6));
        CHECK.due("the 40th line", x.judged(0), 39);
        CHECK.due("60 behind", x.judged(1), 60);
        // Far at first, right behind the first line.
        x = Check.with(TWO + "sets b 300;");
        Check.day(x, "ask b a;");
        CHECK.due("none", x.judged(0), -1);
        CHECK.due("right", x.judged(1), 0);
        CHECK.due("once", x.judged(2), 1);
    }

    /** "the DAY from the begin": whatever was done meanwhile. */
    private static void judgedFromTheBegin() {
        WristPort x = Check.with(TWO + "sets b 55;asks a b;moods asked;");
        Check.day(x, "quarter;ask b a;quarter;quarter;quarter;fright a 20;");
        int[] due = {x.judged(0), x.judged(1), x.judged(2)};
        CHECK.due("asked by hand and on the hour", due[2], 2);
        x.ask(0, 1);
        x.fright(0, 60);
        for (int q = 0; q < 7; q++) {
            x.quarter();
        }
        x.mark(1, false);
        for (int what = 0; what < 3; what++) {
            CHECK.due("as ahead " + what, x.judged(what), due[what]);
        }
        x.mark(1, true);
        x.quarter();
        x.undo();
        for (int what = 0; what < 3; what++) {
            CHECK.due("as ahead " + what, x.judged(what), due[what]);
        }
    }

    /** FRIGHTS and SOOTHES of a DAY go by as much as is told, from 20 to 160 beats: how far OUT behind a QUARTER. */
    private static void judgedByHowMuch() {
        String[] lines = {"fright a 1", "fright a 1", "fright a 40", "fright a 60", "fright a 60", "fright a 60",
            "soothe a 1", "soothe a 1", "soothe a 40", "soothe a 60", "soothe a 60", "soothe a 60"};
        int[] beats = {62, 63, 20, 20, 100, 101, 65, 64, 100, 120, 80, 79};
        int[] due = {0, 1, 0, 5, 25, 25, 1, 0, 0, 0, 10, 10};
        for (int i = 0; i < lines.length; i++) {
            WristPort x = Check.with("person a plain beats " + beats[i] + ";");
            CHECK.due(lines[i], Check.day(x, lines[i] + ";quarter;"), 0);
            CHECK.due(lines[i] + " from " + beats[i], x.judged(1), due[i]);
        }
    }

    /** "JUDGED, what 0: a line (NONE: none), 1: how far, 2: how often; -2: others". */
    private static void judgedWhat() {
        WristPort x = new WristPort();
        int[] due = {-2, -1, 0, 0, -2};
        for (int what = -1; what <= 3; what++) {
            CHECK.due("nobody, what " + what, x.judged(what), due[what + 1]);
        }
        Check.day(x, "quarter;".repeat(40));
        for (int what = -1; what <= 3; what++) {
            CHECK.due("nobody, 40 lines, what " + what, x.judged(what), due[what + 1]);
        }
        for (int what : FAR) {
            CHECK.due("what " + what, x.judged(what), -2);
        }
        x = Check.with(TWO + "sets b 300;");
        CHECK.due("no DAY, no line", x.judged(0), -1);
        CHECK.due("no DAY, how far at first", x.judged(1), 300);
        CHECK.due("no DAY, nobody asked", x.judged(2), 0);
    }

    /** "MARKS 0 to 3"; "false: none such, nothing is on it (back)". */
    private static void marks0To3() {
        WristPort x = Check.with(TWO);
        for (int mark = -2; mark <= 5; mark++) {
            boolean there = mark >= 0 && mark <= 3;
            CHECK.due("nothing on " + mark, x.mark(mark, true), false);
            CHECK.due("lay " + mark, x.mark(mark, false), there);
            CHECK.due("back to " + mark, x.mark(mark, true), there);
            CHECK.due("and once more", x.mark(mark, true), there);
        }
        for (int mark : FAR) {
            CHECK.due("lay " + mark, x.mark(mark, false), false);
            CHECK.due("back to " + mark, x.mark(mark, true), false);
        }
        CHECK.due("without a PORT, too", new WristPort().mark(0, false), true);
        // Four at once, each its own.
        for (int mark = 0; mark < 4; mark++) {
            x.quarter();
            x.mark(mark, false);
        }
        for (int mark = 3; mark >= 0; mark--) {
            CHECK.due("back", x.mark(mark, true), true);
            CHECK.due("its QUARTERS", x.count(1), mark + 1);
        }
    }

    /** "hold all that UNDO brings back, what is SEEN, TOLD (nothing can be undone when one is gone back to)". */
    private static void marksHold() {
        WristPort x = Check.with(TWO + "sets a 50;asks b a;moods asked;");
        for (int q = 0; q < 5; q++) {
            x.quarter();
        }
        x.fright(0, 20);
        x.see(0, 3, -360);
        x.tell(40, 359);
        x.tell(1, 0);
        CHECK.due("laid", x.mark(2, false), true);
        CHECK.due("laying leaves what can be undone", x.count(9), 6);
        String then = Check.all(x).replaceFirst("^(?<nine>(\\S+ ){9})6 ", "${nine}0 ");
        for (int i = 0; i < 30; i++) {
            x.quarter();
            x.ask(1, 0);
            x.soothe(1, 7);
            x.see(1, 1, 1);
            x.tell(2, 2);
        }
        CHECK.due("six SEEN", x.count(7), 6);
        CHECK.due("six TOLD", x.count(8), 6);
        CHECK.due("back", x.mark(2, true), true);
        CHECK.dueSame("as it was, but for what can be undone", x, then);
        CHECK.due("nothing can be undone", x.undo(), false);
        CHECK.due("there is room for SEEN again", x.see(1, 1, 1), true);
        CHECK.due("there is room for TOLD again", x.tell(1, 1), true);
        CHECK.due("back", x.mark(2, true), true);
        CHECK.dueSame("the MARK holds what it held", x, then);
        x.quarter();
        CHECK.due("what is done then can be", x.undo(), true);
        CHECK.due("that alone", x.undo(), false);
        // A refused way back changes nothing.
        x.quarter();
        String before = Check.all(x);
        CHECK.due("nothing is on it", x.mark(3, true), false);
        CHECK.dueSame("nothing is on it", x, before);
        CHECK.due("it can be undone yet", x.undo(), true);
        // The DAY is not held.
        Check.day(x, "quarter;");
        x.mark(2, true);
        CHECK.due("the DAY stays", x.count(6), 1);
    }

    /** "-1000: others": person and what. */
    private static void personWhat() {
        WristPort x = Check.with("person a plain beats 20;person b calm beats 160;sets b 719;asks b a;");
        int[][] due = {{0, 20, 0, 0, 0, -1}, {3, 160, 719, -1, 0, 0}};
        for (int i = 0; i < 2; i++) {
            for (int what = 0; what < 6; what++) {
                CHECK.due("person " + i + " what " + what, x.person(i, what), due[i][what]);
            }
            for (int what : new int[] {-1, 6, 7, Integer.MIN_VALUE, Integer.MAX_VALUE}) {
                CHECK.due("what " + what, x.person(i, what), -1000);
            }
        }
        for (int person : new int[] {-1, 2, 5, 6, Integer.MIN_VALUE, Integer.MAX_VALUE}) {
            for (int what = -1; what <= 6; what++) {
                CHECK.due("person " + person, x.person(person, what), -1000);
            }
        }
        CHECK.due("nobody", new WristPort().person(0, 0), -1000);
    }

    /** "NONE for another what". */
    private static void countWhat() {
        WristPort x = Check.with(TWO);
        for (int what : new int[] {-1, 11, 12, -1000, Integer.MIN_VALUE, Integer.MAX_VALUE}) {
            CHECK.due("what " + what, x.count(what), -1);
        }
        StringBuilder six = new StringBuilder();
        for (char name = 'a'; name <= 'f'; name++) {
            six.append("person ").append(name).append(" old beats 160;sets ").append(name).append(" 1;");
        }
        x = Check.with(six.toString());
        CHECK.due("six", x.count(0), 6);
        CHECK.due("a DAY of six", Check.day(x, "ask a f;ask f a;ask e f;"), 0);
        CHECK.due("how often in the DAY", x.judged(2), 3);
        CHECK.due("nobody yet", x.count(4), 0);
        for (int i = 0; i < 6; i++) {
            x.ask(i, (i + 1) % 6);
            CHECK.due("asked of all", x.count(4), i + 1);
        }
        CHECK.due("beats of all", x.count(3), 960);
        CHECK.due("all are OUT", x.count(5), 63);
    }

    /** "An object is used for at most 512 calls": so many of each are answered. */
    private static void for512Calls() {
        WristPort x = Check.with("person a child beats 160;person b calm beats 60;asks a b;asks b a;moods 20;");
        for (int q = 1; q <= 500; q++) {
            CHECK.due("quarter", x.quarter(), q * 15 % 720);
        }
        CHECK.due("asked on each hour", x.count(4), 250);
        CHECK.due("QUARTERS", x.count(1), 500);
        x = Check.with(TWO);
        for (int i = 1; i <= 500; i++) {
            x.ask(0, 1);
            CHECK.due("asked", x.person(1, 4), i);
        }
    }
}
