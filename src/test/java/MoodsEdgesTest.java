/** Edges of E, the law of moods: sections "Terms" and 2, promises 3 and 9. */
public final class MoodsEdgesTest {
    private static final Check CHECK = new Check("MoodsEdgesTest");
    /** 2 ^ 31 - 1, by NUMBERS of four digits. */
    private static final String GREATEST = "9999 * 9999 * 21 + 9999 * 4790 + 8416";

    public static void main(String[] args) {
        within5();
        fromTheLeft();
        oneComparison();
        not();
        whatIsNot0IsSo();
        intsWrap();
        moodsFrom20LessTo20More();
        beatsFrom20To160();
        calmOnes();
        withoutMoods();
        beat();
        out();
        asked();
        hour();
        asLongAsTheTape();
        CHECK.end();
    }

    /** How many beats more one of 60, right, has behind a QUARTER by this E. */
    private static void mood(String e, int more) {
        WristPort x = Check.with("person a plain beats 60;moods " + e + ";");
        x.quarter();
        CHECK.due("moods " + e, x.person(0, 1), 60 + more);
    }

    private static void fault(int kind, String before, String wrong) {
        CHECK.duePort("moods " + before + wrong, Check.fault(kind, "moods " + before));
    }

    /** "no PART lies within 5 of not and ( )"; "5 .. not, or a PART, within 5 others". */
    private static void within5() {
        mood("((((7))))", 7);
        mood("not not not not 7", 1);
        mood("not (not (7))", 1);
        mood("((((7)))) + ((((8)))) - (not (not 9))", 14);
        mood("((((1)) + ((2))))", 3);
        String[] five = {"(((((", "not not not not not ", "not (not (not ", "(not (not (", "((((not ", "not(((("};
        for (String before : five) {
            for (String part : new String[] {"1", "9999", "beat", "out", "asked", "hour", "not", "(", "not 1", "(1)"}) {
                fault(5, before, part);
            }
            for (String other : new String[] {"", ";", ")", "and", "<", "=", "+", "-", "*", "12345", "!", "pp", "person"}) {
                fault(1, before, other);
            }
        }
        fault(5, "1 + ((((2)))) * (((((", "3");
        fault(5, "((((1 + 2 * (", "3");
        fault(5, "((((1 < (", "3");
        fault(5, "((((1 and (", "3");
        fault(5, "((((1 and not ", "3");
        mood("(((1 and (5 < 9))))", 1);
        // As much as can wait for its right side: at each depth an E, a TEST, a SUM and a PRODUCT.
        for (int last = 0; last <= 1; last++) {
            mood("0 or 0 < 0 + 1 * (".repeat(4) + "0 or 0 < 0 + 1 * " + last + "))))", last);
            mood("1 and 6 < 7 * (".repeat(4) + "1 and 6 < 7 * " + last + "))))", last);
        }
        mood("9 - 2 * (9 - 2 * (9 - 2 * (9 - 2 * (9 - 2 * 3))))", 3);
        fault(1, "((((7)))", ";");
        fault(1, "((((7))))", ")");
    }

    /** "TEST { and TEST or or TEST }, from the left"; SUM and PRODUCT as well. */
    private static void fromTheLeft() {
        mood("1 or 1 and 0", 0);
        mood("0 and 1 or 1", 1);
        mood("0 and (1 or 1)", 0);
        mood("1 or (1 and 0)", 1);
        mood("9 - 5 - 3", 1);
        mood("9 - (5 - 3)", 7);
        mood("9 - 5 + 3", 7);
        mood("2 * 3 + 4 * 2", 14);
        mood("2 * (3 + 4)", 14);
        mood("3 + 4 * 2", 11);
        mood("1 + 1 < 1 * 3 and 1", 1);
        mood("5", 5);
        fault(1, "1 and ", ";");
        fault(1, "1 or ", "and");
        fault(1, "1 + ", "+");
        fault(1, "1 * ", "-");
        fault(1, "", "* 1");
        fault(1, "1 ", "1");
        fault(1, "beat ", "out");
        fault(1, "1 ", "(2)");
        fault(1, "1 ", "not 1");
    }

    /** "TEST: SUM, or SUM < SUM, or SUM = SUM": one of them at most. */
    private static void oneComparison() {
        mood("3 < 4", 1);
        mood("4 < 4", 0);
        mood("5 < 4", 0);
        mood("4 = 4", 1);
        mood("4 = 5", 0);
        mood("(1 < 2) < 2", 1);
        mood("(1 = 2) = 0", 1);
        fault(1, "1 < 2 ", "< 3");
        fault(1, "1 = 2 ", "= 3");
        fault(1, "1 < 2 ", "= 3");
        fault(1, "1 = 2 ", "< 3");
        fault(1, "(1 < 2 ", "< 3");
        mood("1 < 2 and 2 < 3", 1);
        mood("2 < 1 or 3 = 3", 1);
        fault(1, "1 < ", ";");
        fault(1, "1 = ", "<");
    }

    /** "not PART": of the PART alone. */
    private static void not() {
        mood("not 0", 1);
        mood("not 1", 0);
        mood("not 9", 0);
        mood("not 0 + 5", 6);
        mood("not (0 + 5)", 0);
        mood("not 0 * 7", 7);
        mood("not 1 < 1", 1);
        mood("not (1 < 1)", 1);
        mood("not (0 - 3)", 0);
        fault(1, "not ", ";");
        fault(1, "not ", "or");
    }

    /** "Of not, and, or, < and = comes 1 or 0; what is not 0 is so". */
    private static void whatIsNot0IsSo() {
        mood("7 and 5", 1);
        mood("7 and 0", 0);
        mood("0 and 7", 0);
        mood("7 or 0", 1);
        mood("0 or 7", 1);
        mood("0 or 0", 0);
        mood("7 or 5", 1);
        mood("(0 - 1) and (0 - 7)", 1);
        mood("0 or (0 - 7)", 1);
        mood("2 and 4 and 8", 1);
        mood("not not (0 - 7)", 1);
        mood("(3 < 5) * 9", 9);
    }

    /** "ints wrap". */
    private static void intsWrap() {
        mood(GREATEST + " < 0", 0);
        mood(GREATEST, 20);
        mood(GREATEST + " + 1 < 0", 1);
        mood(GREATEST + " + 1", -20);
        mood("0 - (" + GREATEST + ") - 1", -20);
        mood("0 - (" + GREATEST + ") - 2", 20);
        mood("(" + GREATEST + ") * 2 + 2", 0);
        mood("(" + GREATEST + ") * 2 + 7", 5);
        // 4096 * 4096 * 256 is 2 ^ 32, 4096 * 4096 * 128 is 2 ^ 31.
        mood("4096 * 4096 * 256", 0);
        mood("4096 * 4096 * 256 + 3", 3);
        mood("4096 * 4096 * 128", -20);
        mood("0 - 4096 * 4096 * 128", -20);
        mood("4096 * 4096 * 256 = 0", 1);
        mood("not (4096 * 4096 * 256)", 1);
    }

    /** "as many beats more as the E of moods tells (-20 to 20; less than 0: less)". */
    private static void moodsFrom20LessTo20More() {
        for (int more = -30; more <= 30; more++) {
            String e = more < 0 ? "0 - " + -more : String.valueOf(more);
            mood(e, Math.max(-20, Math.min(20, more)));
        }
        mood("9999", 20);
        mood("0 - 9999", -20);
    }

    /** ".., of 20 to 160". */
    private static void beatsFrom20To160() {
        int[][] due = {{139, 159}, {140, 160}, {141, 160}, {159, 160}, {160, 160}};
        for (int[] one : due) {
            WristPort x = Check.with("person a plain beats " + one[0] + ";moods 20;");
            x.quarter();
            CHECK.due("20 more than " + one[0], x.person(0, 1), one[1]);
        }
        int[][] less = {{41, 21}, {40, 20}, {39, 20}, {21, 20}, {20, 20}};
        for (int[] one : less) {
            WristPort x = Check.with("person a plain beats " + one[0] + ";moods 0 - 20;");
            x.quarter();
            CHECK.due("20 less than " + one[0], x.person(0, 1), one[1]);
        }
        // Beats that stand at the bound go on from there.
        WristPort x = Check.with("person a plain beats 150;moods 20 * (hour < 1) - 1;");
        for (int q = 0; q < 4; q++) {
            x.quarter();
        }
        CHECK.due("160, then less 1", x.person(0, 1), 159);
    }

    /** "but for calm ones". */
    private static void calmOnes() {
        WristPort x = Check.with("person a calm beats 60;person b plain beats 60;person c child beats 60;"
                + "person d old beats 60;moods 5;");
        x.quarter();
        int[] due = {60, 65, 65, 65};
        for (int i = 0; i < 4; i++) {
            CHECK.due("kind of " + i, x.person(i, 1), due[i]);
        }
    }

    /** "Without moods: 0." */
    private static void withoutMoods() {
        WristPort x = Check.with("person a plain beats 60;");
        for (int q = 0; q < 48; q++) {
            x.quarter();
        }
        CHECK.due("60 yet", x.person(0, 1), 60);
        Check.port(x, "person a plain beats 60;moods 5;");
        Check.port(x, "person a plain beats 60;");
        x.quarter();
        CHECK.due("the law ahead is gone", x.person(0, 1), 60);
    }

    /** "beat (how many beats)": of the very one, ahead of the change. */
    private static void beat() {
        WristPort x = Check.with("person a plain beats 20;person b plain beats 160;person c plain beats 60;moods beat - 80;");
        x.quarter();
        CHECK.due("20 stay 20", x.person(0, 1), 20);
        CHECK.due("160 stay 160", x.person(1, 1), 160);
        CHECK.due("60 less 20", x.person(2, 1), 40);
        x = Check.with("person a plain beats 160;moods (beat = 160) * 0 - 7;");
        x.quarter();
        CHECK.due("160 less 7", x.person(0, 1), 153);
    }

    private static void outIs(int time, int out) {
        WristPort x = Check.with("person a plain beats 60;sets a " + time + ";moods (out = "
                + (out < 0 ? "0 - " + -out : "" + out) + ") * 9;");
        x.quarter();
        CHECK.due("out of " + time, x.person(0, 1), 69);
    }

    /** "out (how far out one is, less than 0: behind)": -360 to 359. */
    private static void out() {
        outIs(0, 0);
        outIs(1, 1);
        outIs(719, -1);
        outIs(359, 359);
        outIs(360, -360);
        outIs(361, -359);
        // Behind the asking on the hour.
        WristPort x = Check.with("person a plain beats 60;person b plain beats 60;sets b 7;asks a b;moods out;");
        for (int q = 0; q < 3; q++) {
            x.quarter();
        }
        CHECK.due("right till then", x.person(0, 1), 60);
        x.quarter();
        // b: 7 ahead, 67 beats; 8, 75; 11, 86; 17 on the hour, when a asks.
        CHECK.due("as far as b", x.person(0, 3), 17);
        CHECK.due("by b's time", x.person(0, 1), 77);
        CHECK.due("b", x.person(1, 1), 103);
    }

    /** "asked (how often one was asked)": by hand, and on the hour just gone. */
    private static void asked() {
        WristPort x = Check.with("person a plain beats 60;person b plain beats 60;asks a b;moods asked;");
        x.ask(1, 0);
        x.ask(1, 0);
        x.quarter();
        CHECK.due("asked twice", x.person(0, 1), 62);
        CHECK.due("never", x.person(1, 1), 60);
        x.quarter();
        x.quarter();
        CHECK.due("ahead of the hour", x.person(1, 1), 60);
        x.quarter();
        CHECK.due("asked on the hour", x.person(1, 1), 61);
    }

    /** "hour (of true time, 0 to 11)". */
    private static void hour() {
        WristPort x = Check.with("person a plain beats 20;moods 20 * (hour = 11) - 20 * (hour = 0);");
        for (int q = 1; q < 44; q++) {
            x.quarter();
        }
        CHECK.due("not yet 11", x.person(0, 1), 20);
        x.quarter();
        CHECK.due("11", x.person(0, 1), 40);
        for (int q = 45; q <= 47; q++) {
            x.quarter();
        }
        CHECK.due("the last quarter of 11", x.person(0, 1), 100);
        x.quarter();
        CHECK.due("0 again", x.person(0, 1), 80);
        x = Check.with("person a plain beats 20;moods (hour < 0) + (11 < hour) + (hour = 12);");
        for (int q = 0; q < 60; q++) {
            x.quarter();
        }
        CHECK.due("0 to 11", x.person(0, 1), 20);
        x = Check.with("person a plain beats 60;moods hour;");
        int beats = 60;
        for (int q = 1; q <= 12; q++) {
            x.quarter();
            beats += q / 4;
            CHECK.due("hour " + q / 4, x.person(0, 1), beats);
        }
    }

    /** An E as long as the TAPE: all of it counts. */
    private static void asLongAsTheTape() {
        String person = "person a plain beats 60;moods ";
        int more = (1000 - person.length() - 2) / 2;
        for (String join : new String[] {"+", "-"}) {
            String e = "1" + (join + "1").repeat(more - 1) + join + "9";
            WristPort x = Check.with(person + e + ";");
            x.quarter();
            CHECK.due("the longest by " + join, x.person(0, 1), join.equals("+") ? 80 : 40);
        }
        // 0 and then ones: 7 by the last two alone.
        String e = "0" + "*1".repeat(more - 2) + "+7";
        WristPort x = Check.with(person + e + ";");
        x.quarter();
        CHECK.due("the last PART", x.person(0, 1), 67);
        String tests = "1" + " or 0".repeat(150) + " and 1";
        x = Check.with(person + tests + ";");
        x.quarter();
        CHECK.due("many tests", x.person(0, 1), 61);
    }
}
