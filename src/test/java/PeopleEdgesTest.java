/** Edges of COMES to CURE: section 3, promises 29 to 41. */
public final class PeopleEdgesTest {
    private static final Check CHECK = new Check("PeopleEdgesTest");
    private static final int[] NOBODY = {-1, 2, 6, Integer.MIN_VALUE, Integer.MAX_VALUE};
    private static final int[] NOT_1_TO_96 = {-1, 0, 97, Integer.MIN_VALUE, Integer.MAX_VALUE};
    private static final int[] NOT_0_TO_60 = {-1, 61, Integer.MIN_VALUE, Integer.MAX_VALUE};

    public static void main(String[] args) {
        comesThroughHoweverMany();
        ringsOfTheirOwn();
        calmOfEqualOnes();
        drift1To96();
        driftWithoutSigns();
        near0To60();
        nearPairs();
        spread();
        right0To96();
        steadyOfEqualOnes();
        passes1To96();
        passesOfEachKind();
        hubOfTheMost();
        teacherBehind24();
        teacherNobody();
        together0To96();
        cureFrom60LessTo60More();
        cureWithin20To160();
        cureToJust20AndJust160();
        cureOfEqualOnes();
        cureBehind24();
        CHECK.end();
    }

    private static String six(String asks) {
        StringBuilder s = new StringBuilder();
        for (char name = 'a'; name <= 'f'; name++) {
            s.append("person ").append(name).append(" plain beats 60;");
        }
        return s + asks;
    }

    /** Two plain ones, of so many beats each, at these times. */
    private static WristPort two(int beats, int time, int otherBeats, int otherTime) {
        return Check.with("person a plain beats " + beats + ";person b plain beats " + otherBeats + ";sets a " + time
                + ";sets b " + otherTime + ";");
    }

    private static WristPort one(int beats, int time) {
        return Check.with("person a plain beats " + beats + ";sets a " + time + ";");
    }

    private static void dueComes(String asks, int... due) {
        WristPort x = Check.with(six(asks));
        for (int i = 0; i < 6; i++) {
            CHECK.due("comes " + i + " by " + asks, x.comes(i), due[i]);
        }
        CHECK.due("rings by " + asks, x.rings(), due[6]);
    }

    /** "COMES of a PERSON: to whom his time comes by asking on the hour, through however many (bits)". */
    private static void comesThroughHoweverMany() {
        dueComes("", 0, 0, 0, 0, 0, 0, 0);
        // The longest row: f asks e asks d asks c asks b asks a; and backwards.
        dueComes("asks f e;asks e d;asks d c;asks c b;asks b a;", 62, 60, 56, 48, 32, 0, 0);
        dueComes("asks a b;asks b c;asks c d;asks d e;asks e f;", 0, 1, 3, 7, 15, 31, 0);
        dueComes("asks a f;asks b f;asks c f;asks d f;asks e f;", 0, 0, 0, 0, 0, 31, 0);
        for (int who : new int[] {-1, 6, Integer.MIN_VALUE, Integer.MAX_VALUE}) {
            CHECK.due("comes of " + who, Check.with(six("")).comes(who), -1);
        }
        CHECK.due("nobody", new WristPort().comes(0), -1);
        CHECK.due("alone", one(60, 0).comes(0), 0);
    }

    /** "RINGS: PERSONS whose own time comes to them so (bits)". */
    private static void ringsOfTheirOwn() {
        CHECK.due("nobody", new WristPort().rings(), 0);
        dueComes("asks a b;asks b a;", 3, 3, 0, 0, 0, 0, 3);
        dueComes("asks a b;asks b c;asks c d;asks d e;asks e f;asks f a;", 63, 63, 63, 63, 63, 63, 63);
        // Two rings, and one who asks into the second: not of it.
        dueComes("asks a b;asks b a;asks c d;asks d e;asks e c;asks f e;", 3, 3, 60, 60, 60, 0, 31);
        // A row of four into a ring of two.
        dueComes("asks a b;asks b c;asks c d;asks d e;asks e f;asks f e;", 0, 1, 3, 7, 63, 63, 48);
    }

    /** "CALM: who has the fewest beats; of equal ones the first"; "NONE: nobody". */
    private static void calmOfEqualOnes() {
        CHECK.due("nobody", new WristPort().calm(), -1);
        CHECK.due("alone", one(160, 0).calm(), 0);
        CHECK.due("equal ones", two(20, 0, 20, 0).calm(), 0);
        CHECK.due("20 and 21", two(21, 0, 20, 0).calm(), 1);
        CHECK.due("the KIND is nothing to it",
                Check.with("person a calm beats 61;person b child beats 60;").calm(), 1);
        WristPort x = Check.with(six(""));
        CHECK.due("six equal ones", x.calm(), 0);
        x.soothe(5, 1);
        CHECK.due("the last", x.calm(), 5);
        x.soothe(3, 1);
        CHECK.due("of equal ones the first", x.calm(), 3);
    }

    /** "DRIFT .. behind so many (1 to 96) QUARTERS"; "-1000: others". */
    private static void drift1To96() {
        WristPort x = two(64, 0, 56, 0);
        for (int q = 1; q <= 96; q++) {
            CHECK.due("ahead " + q, x.drift(0, q), q);
            CHECK.due("behind " + q, x.drift(1, q), q);
        }
        for (int q : NOT_1_TO_96) {
            CHECK.due("drift " + q, x.drift(0, q), -1000);
        }
        for (int who : NOBODY) {
            CHECK.due("drift of " + who, x.drift(who, 1), -1000);
        }
        CHECK.due("nobody", new WristPort().drift(0, 1), -1000);
    }

    /** "by how much he is farther OUT (less than 0: less far), without signs". */
    private static void driftWithoutSigns() {
        CHECK.due("no farther", one(60, 300).drift(0, 96), 0);
        CHECK.due("from 359 to -360", one(64, 359).drift(0, 1), 1);
        CHECK.due("from -360 to 359", one(56, 360).drift(0, 1), -1);
        CHECK.due("from -5 to 5", one(64, 715).drift(0, 10), 0);
        CHECK.due("from -5 to 0", one(64, 715).drift(0, 5), -5);
        CHECK.due("from -360 to 0", two(60, 360, 60, 0).drift(0, 4), 0);
        CHECK.due("from -360 to 0 by asking", Check.with("person a plain beats 60;person b plain beats 60;sets a 360;"
                + "asks a b;").drift(0, 4), -360);
        CHECK.due("from 0 to -360 by asking", Check.with("person a plain beats 60;person b plain beats 60;sets b 360;"
                + "asks a b;").drift(0, 4), 360);
    }

    /** "NEAR: pairs whose OUTS are no more than so many minutes (0 to 60) apart"; "NONE: others". */
    private static void near0To60() {
        for (int minutes = 0; minutes <= 60; minutes++) {
            CHECK.due("just so far", Check.at(0, minutes).near(minutes), 1);
            CHECK.due("the other way", Check.at(minutes, 0).near(minutes), 1);
            CHECK.due("a minute more", Check.at(0, minutes + 1).near(minutes), 0);
            CHECK.due("one behind", Check.at(719, minutes).near(minutes), 0);
        }
        for (int minutes : NOT_0_TO_60) {
            CHECK.due("near " + minutes, Check.at(0, 0).near(minutes), -1);
            CHECK.due("near " + minutes, new WristPort().near(minutes), -1);
        }
        CHECK.due("nobody", new WristPort().near(0), 0);
        CHECK.due("alone", one(60, 0).near(60), 0);
        CHECK.due("past 0", Check.at(719, 59).near(60), 1);
        CHECK.due("OUTS 359 and -360", Check.at(359, 360).near(60), 0);
    }

    /** Each two are one pair: of six alike, fifteen. */
    private static void nearPairs() {
        CHECK.due("of two", Check.at(5, 5).near(0), 1);
        CHECK.due("of three", Check.at(5, 5, 5).near(0), 3);
        CHECK.due("of six", Check.at(5, 5, 5, 5, 5, 5).near(0), 15);
        CHECK.due("of two threes", Check.at(5, 100, 5, 100, 5, 100).near(0), 6);
        CHECK.due("a row", Check.at(0, 10, 20, 30, 40, 50).near(10), 5);
        CHECK.due("a row, two apart", Check.at(0, 10, 20, 30, 40, 50).near(20), 9);
    }

    /** "SPREAD: the farthest ahead less the farthest behind"; "(0: nobody)". */
    private static void spread() {
        CHECK.due("nobody", new WristPort().spread(), 0);
        CHECK.due("alone", one(60, 360).spread(), 0);
        CHECK.due("alike", Check.at(359, 359).spread(), 0);
        CHECK.due("both ahead", Check.at(10, 359).spread(), 349);
        CHECK.due("both behind", Check.at(360, 719).spread(), 359);
        CHECK.due("ahead and behind", Check.at(1, 719).spread(), 2);
        CHECK.due("the farthest", Check.at(360, 359).spread(), 719);
        CHECK.due("of six", Check.at(0, 5, 719, 3, 700, 2).spread(), 25);
    }

    /** "RIGHT: behind how many QUARTERS (0 to 96) a PERSON is not OUT"; "NONE: others, not by 96". */
    private static void right0To96() {
        for (int far : new int[] {0, 1, 95, 96}) {
            CHECK.due("ahead " + far, one(56, far).right(0), far);
            CHECK.due("behind " + far, one(64, (720 - far) % 720).right(0), far);
        }
        CHECK.due("97 ahead", one(56, 97).right(0), -1);
        CHECK.due("97 behind", one(64, 623).right(0), -1);
        CHECK.due("never", one(60, 1).right(0), -1);
        CHECK.due("past it, not to it", one(68, 719).right(0), -1);
        // 25 a QUARTER: from -25 at once; from 20: behind 28 QUARTERS 720.
        CHECK.due("from -25", one(160, 695).right(0), 1);
        CHECK.due("round the twelve hours", one(160, 20).right(0), 28);
        CHECK.due("by asking", Check.with("person a plain beats 60;person b plain beats 60;sets a 5;asks a b;").right(0), 4);
        for (int who : NOBODY) {
            CHECK.due("right of " + who, Check.at(0, 0).right(who), -1);
        }
        CHECK.due("nobody", new WristPort().right(0), -1);
    }

    /** "STEADY: whose OUT changes the least, without the sign, ..; of equal ones the first"; "NONE: nobody". */
    private static void steadyOfEqualOnes() {
        CHECK.due("nobody", new WristPort().steady(), -1);
        CHECK.due("alone", one(160, 0).steady(), 0);
        CHECK.due("1 and -1", two(64, 0, 56, 0).steady(), 0);
        CHECK.due("-1 and 1", two(56, 0, 64, 0).steady(), 0);
        CHECK.due("-2 and 1", two(52, 0, 64, 0).steady(), 1);
        CHECK.due("0, however far", two(64, 0, 60, 360).steady(), 1);
        // OUTS are numbers: from 359 to -360 it changes by 719.
        CHECK.due("past 359", two(64, 359, 68, 0).steady(), 1);
        CHECK.due("to 359", two(64, 358, 68, 0).steady(), 0);
        CHECK.due("past -360", two(56, 360, 68, 0).steady(), 1);
        CHECK.due("all alike", Check.at(1, 2, 3, 4, 5, 6).steady(), 0);
        CHECK.due("the last", Check.with("person a child beats 60;person b old beats 60;person c calm beats 60;").steady(), 2);
    }

    /** "of so many (1 to 96) QUARTERS"; "NONE: others, the same". */
    private static void passes1To96() {
        WristPort x = two(60, 95, 64, 0);
        CHECK.due("behind yet", x.passes(0, 1, 94), 0);
        CHECK.due("neither any more", x.passes(0, 1, 95), 1);
        CHECK.due("the other one", x.passes(0, 1, 96), 2);
        CHECK.due("the other way", x.passes(1, 0, 96), 2);
        CHECK.due("96 is enough", two(60, 96, 64, 0).passes(0, 1, 96), 1);
        CHECK.due("97 is too far", two(60, 97, 64, 0).passes(0, 1, 96), 0);
        for (int q : NOT_1_TO_96) {
            CHECK.due("passes " + q, x.passes(0, 1, q), -1);
        }
        for (int who : NOBODY) {
            CHECK.due("passes of " + who, x.passes(who, 0, 1), -1);
            CHECK.due("passes of " + who, x.passes(0, who, 1), -1);
            CHECK.due("passes of " + who, x.passes(who, who, 1), -1);
        }
        CHECK.due("the same", x.passes(0, 0, 1), -1);
        CHECK.due("the same", x.passes(1, 1, 1), -1);
        CHECK.due("nobody", new WristPort().passes(0, 1, 1), -1);
    }

    /** "another one of them is farther ahead OUT, or neither any more, or one again". */
    private static void passesOfEachKind() {
        CHECK.due("another one at once", two(60, 1, 68, 0).passes(0, 1, 1), 1);
        CHECK.due("neither any more", two(60, 1, 64, 0).passes(0, 1, 1), 1);
        CHECK.due("one again, from now on", two(60, 0, 64, 0).passes(0, 1, 1), 1);
        CHECK.due("and stays so", two(60, 0, 64, 0).passes(0, 1, 96), 1);
        CHECK.due("never", two(60, 0, 60, 0).passes(0, 1, 96), 0);
        // b asks a on the hour, and is ahead between: one again and neither, each hour.
        WristPort x = Check.with("person a plain beats 60;person b plain beats 64;asks b a;");
        CHECK.due("behind 3", x.passes(0, 1, 3), 1);
        CHECK.due("behind 4", x.passes(0, 1, 4), 2);
        CHECK.due("behind 5", x.passes(0, 1, 5), 3);
        CHECK.due("behind 96", x.passes(0, 1, 96), 48);
        // Farther ahead goes by OUTS: a at 359 is ahead; at -360 behind.
        CHECK.due("from 359 to -360", two(64, 359, 60, 0).passes(0, 1, 1), 1);
    }

    /** "HUB: who is asked on the hour by the most; of equal ones the first"; "NONE: nobody is asked". */
    private static void hubOfTheMost() {
        CHECK.due("nobody", new WristPort().hub(), -1);
        CHECK.due("alone", one(60, 0).hub(), -1);
        CHECK.due("nobody is asked", Check.with(six("")).hub(), -1);
        CHECK.due("the last", Check.with(six("asks a f;")).hub(), 5);
        CHECK.due("by all others", Check.with(six("asks a f;asks b f;asks c f;asks d f;asks e f;asks f a;")).hub(), 5);
        CHECK.due("by one each", Check.with(six("asks a f;asks f e;")).hub(), 4);
        CHECK.due("by two each", Check.with(six("asks a c;asks b c;asks c b;asks d b;")).hub(), 1);
        CHECK.due("two and three", Check.with(six("asks a c;asks d c;asks c b;asks e b;asks f b;")).hub(), 1);
        WristPort x = Check.with(six("asks b a;"));
        x.ask(0, 5);
        x.ask(1, 5);
        CHECK.due("by hand is nothing to it", x.hub(), 0);
    }

    /** "whom they should ASK now so as to be the least OUT, without the sign, behind 24 QUARTERS". */
    private static void teacherBehind24() {
        String a = "person a plain beats 64;person b plain beats 60;person c plain beats 60;person d plain beats 60;";
        CHECK.due("24 behind", Check.with(a + "sets a 50;sets b 697;sets c 696;sets d 695;").teacher(0), 2);
        CHECK.due("-1 and 1 are equal: the first", Check.with(a + "sets a 50;sets b 697;sets c 690;sets d 695;").teacher(0), 1);
        CHECK.due("1 and -1 are equal: the first", Check.with(a + "sets a 50;sets b 695;sets c 690;sets d 697;").teacher(0), 1);
        for (int who : new int[] {-1, 4, 6, Integer.MIN_VALUE, Integer.MAX_VALUE}) {
            CHECK.due("teacher of " + who, Check.with(a).teacher(who), -1);
        }
        CHECK.due("the first of all", Check.at(0, 10).teacher(1), 0);
        CHECK.due("the last of six", Check.at(5, 5, 5, 5, 5, 0).teacher(0), 5);
        CHECK.due("the first of six", Check.at(0, 5, 5, 5, 5, 5).teacher(5), 0);
        // Each is asked now: c is 10 behind now, and 14 ahead behind 24 QUARTERS; d is 12 ahead.
        CHECK.due("c as she is now", Check.with("person a plain beats 60;person b plain beats 64;person c plain beats 64;"
                + "person d plain beats 60;sets a 50;sets b 30;sets c 710;sets d 12;").teacher(0), 2);
    }

    /** "nobody, if asking nobody is as good"; "NONE: others, nobody". */
    private static void teacherNobody() {
        CHECK.due("nobody", new WristPort().teacher(0), -1);
        CHECK.due("alone", one(64, 0).teacher(0), -1);
        CHECK.due("right", Check.at(0, 10).teacher(0), -1);
        CHECK.due("as good", Check.at(10, 710).teacher(0), -1);
        CHECK.due("as good", Check.at(10, 10).teacher(0), -1);
        CHECK.due("better by one", Check.at(10, 711).teacher(0), 1);
        // Right behind 24 QUARTERS, not behind 23 or 25, without asking as by asking.
        CHECK.due("as good behind 24", two(64, 696, 60, 696).teacher(0), -1);
        CHECK.due("better behind 24", two(64, 697, 60, 696).teacher(0), 1);
        CHECK.due("worse by one", Check.at(10, 709).teacher(0), -1);
        CHECK.due("-360 is worse than 359", Check.at(360, 359).teacher(0), 1);
        CHECK.due("359 is better than -360", Check.at(359, 360).teacher(0), -1);
        CHECK.due("on the hour all is the same", Check.with("person a plain beats 60;person b plain beats 60;"
                + "person c plain beats 60;sets a 5;sets b 9;asks a b;").teacher(0), -1);
    }

    /** "TOGETHER: behind how many (0 to 96) QUARTERS the SPREAD is the least; of equal ones the first". */
    private static void together0To96() {
        CHECK.due("nobody", new WristPort().together(), 0);
        CHECK.due("alone", one(160, 7).together(), 0);
        for (int far : new int[] {0, 1, 95, 96}) {
            CHECK.due("behind " + far, two(60, far, 64, 0).together(), far);
        }
        CHECK.due("96 is the least of a way of 97", two(60, 97, 64, 0).together(), 96);
        CHECK.due("all equal: now", two(60, 50, 60, 0).together(), 0);
        CHECK.due("farther and farther: now", two(60, 0, 64, 50).together(), 0);
        // -1, then 1: equal ones.
        CHECK.due("of equal ones the first", two(60, 1, 68, 0).together(), 0);
        CHECK.due("of equal ones the first", two(60, 3, 68, 0).together(), 1);
        CHECK.due("on each hour: the first", Check.with("person a plain beats 60;person b plain beats 64;sets b 5;"
                + "asks b a;").together(), 4);
    }

    /** "by how many beats (-60 to 60; less than 0: SOOTHED)"; "-1000: others". */
    private static void cureFrom60LessTo60More() {
        // 159 less 60 is 99, 24 a QUARTER: 9 * 24 is 216.
        CHECK.due("60 less", one(159, 504).cure(0), -60);
        // 160 less 60 is 100, 25 a QUARTER: 240; 103, too.
        CHECK.due("61 less would be right", one(160, 504).cure(0), -57);
        // 60 and 60 is 120, 30 a QUARTER: 15 * 24 is 360.
        CHECK.due("60 more", one(60, 360).cure(0), 60);
        CHECK.due("61 more would be right", one(59, 360).cure(0), 57);
        for (int who : NOBODY) {
            CHECK.due("cure of " + who, Check.at(0, 0).cure(who), -1000);
        }
        CHECK.due("nobody", new WristPort().cure(0), -1000);
        CHECK.due("right", one(60, 0).cure(0), 0);
        // 63 go on as 60 do; 64 don't.
        CHECK.due("63", one(63, 0).cure(0), 0);
        CHECK.due("64", one(64, 0).cure(0), -1);
        CHECK.due("59", one(59, 0).cure(0), 1);
    }

    /** Beats stay within 20 and 160, however far one is moved. */
    private static void cureWithin20To160() {
        // 240 ahead: 10 a QUARTER less, by 23 beats.
        CHECK.due("20 to 23", one(60, 240).cure(0), -37);
        // 264 ahead: 11 a QUARTER less can't be: 24 ahead by 23 beats.
        CHECK.due("not below 20", one(60, 264).cure(0), -37);
        CHECK.due("at 20 already", one(20, 264).cure(0), 0);
        CHECK.due("at 24: one less", one(24, 264).cure(0), -1);
        // 600 behind is 120 ahead: at 160 already it is right; at 159 one more.
        CHECK.due("at 160 already", one(160, 120).cure(0), 0);
        CHECK.due("at 159", one(159, 120).cure(0), 1);
        // 96 ahead: 26 a QUARTER more can't be: 24 behind by 160 beats.
        CHECK.due("not above 160", one(160, 96).cure(0), 0);
        CHECK.due("not above 160", one(159, 96).cure(0), 1);
    }

    /** Just 20, or just 160, is a cure: by these laws all others come back to 60, or to 100. */
    private static void cureToJust20AndJust160() {
        CHECK.due("60 less 40", Check.with("person a plain beats 60;sets a 240;moods (1-(beat=20))*(60-beat);").cure(0), -40);
        CHECK.due("100 and 60", Check.with("person a plain beats 100;sets a 120;moods (1-(beat=160))*(100-beat);").cure(0), 60);
        CHECK.due("101 and 59", Check.with("person a plain beats 101;sets a 120;moods (1-(beat=160))*(100-beat);").cure(0), 59);
    }

    /** "of equal ones the fewest, then SOOTHED". */
    private static void cureOfEqualOnes() {
        // 12 behind: 12 ahead by 4 beats more; 0 beats are fewer.
        CHECK.due("none is the fewest", one(60, 708).cure(0), 0);
        // 24 ahead: right by 56 to 59 beats.
        CHECK.due("the fewest of four", one(60, 24).cure(0), -1);
        CHECK.due("the fewest of four", one(63, 24).cure(0), -4);
        CHECK.due("the fewest of four", one(52, 24).cure(0), 4);
        // All beats but 56, 64 and 75 come back to 60 by moods; 56 and 64 come to 75, which stay so: 3 a QUARTER for
        // 23 QUARTERS is 69, less 1 by 56 beats in the first one, 1 more by 64: of 69 behind, 1 behind or 1 ahead.
        String law = "moods (beat=56)*19+(beat=64)*11+(1-(beat=56)-(beat=64)-(beat=75))*(60-beat);";
        WristPort x = Check.with("person a plain beats 60;sets a 651;" + law);
        CHECK.due("4 less or 4 more: SOOTHED", x.cure(0), -4);
        x = Check.with("person a plain beats 60;sets a 650;" + law);
        CHECK.due("70 behind: 4 more", x.cure(0), 4);
        x = Check.with("person a plain beats 60;sets a 652;" + law);
        CHECK.due("68 behind: 4 less", x.cure(0), -4);
    }

    /** ".. behind 24 QUARTERS": one sooner or later it would be another. */
    private static void cureBehind24() {
        // 37 behind: 24 more leave 13, 48 more 11; of 25 QUARTERS it would be 12 and 13.
        CHECK.due("not 25", one(60, 683).cure(0), 8);
        // 36 behind: 12 either way, 4 beats are fewer; of 23 QUARTERS it would be 13 and 10.
        CHECK.due("not 23", one(60, 684).cure(0), 4);
        CHECK.due("nothing is done", one(60, 684).count(9), 0);
    }
}
