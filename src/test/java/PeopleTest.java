/** Promises 29 to 41: comes, rings, calm, drift, near, spread, right, steady, passes, hub, teacher, together, cure. */
public final class PeopleTest {
    private static final Check CHECK = new Check("PeopleTest");
    private static final String SIX = "person a plain beats 60; person b plain beats 60; person c plain beats 60;"
            + "person d plain beats 60; person e plain beats 60; person f plain beats 60;";

    public static void main(String[] args) {
        asking();
        calmAndDrift();
        nearAndSpread();
        rightAndSteady();
        passes();
        teachers();
        togethers();
        cures();
        nobody();
        CHECK.end();
    }

    private static void asking() {
        // a asks b, b asks c, c asks a: a ring; d asks a, e asks d; f alone.
        WristPort x = Check.with(SIX + "asks a b; asks b c; asks c a; asks d a; asks e d;");
        int[] due = {31, 31, 31, 16, 0, 0};
        for (int i = 0; i < 6; i++) {
            CHECK.due("comes " + i, x.comes(i), due[i]);
        }
        CHECK.due("comes 6", x.comes(6), -1);
        CHECK.due("comes -1", x.comes(-1), -1);
        CHECK.due("rings", x.rings(), 7);
        CHECK.due("a is asked by two", x.hub(), 0);
        x = Check.with(SIX + "asks a b; asks b c; asks c d; asks d e; asks e f; asks f a;");
        CHECK.due("all", x.rings(), 63);
        CHECK.due("all", x.comes(3), 63);
        CHECK.due("of equal ones the first", x.hub(), 0);
        x = Check.with(SIX + "asks a f; asks b f; asks c e;");
        CHECK.due("no ring", x.rings(), 0);
        CHECK.due("f", x.hub(), 5);
        CHECK.due("to both", x.comes(5), 3);
        x = Check.with(SIX);
        CHECK.due("nobody is asked", x.hub(), -1);
        x.ask(0, 1);
        CHECK.due("not on the hour", x.hub(), -1);
        CHECK.due("not on the hour", x.comes(1), 0);
    }

    private static void calmAndDrift() {
        WristPort x = Check.with("person a plain beats 70; person b plain beats 50; person c calm beats 50;");
        CHECK.due("of equal ones the first", x.calm(), 1);
        x.soothe(2, 1);
        CHECK.due("fewest", x.calm(), 2);
        x = Check.with("person a plain beats 64; person b plain beats 56; sets a 700; sets b 10;");
        CHECK.due("-20 to 0", x.drift(0, 20), -20);
        CHECK.due("-20 to 30", x.drift(0, 50), 10);
        CHECK.due("10 to -86", x.drift(1, 96), 76);
        for (int bad : new int[] {0, 97, -1}) {
            CHECK.due("drift " + bad, x.drift(0, bad), -1000);
        }
        CHECK.due("nobody", x.drift(2, 1), -1000);
        CHECK.due("nobody", x.drift(-1, 1), -1000);
    }

    private static void nearAndSpread() {
        WristPort x = Check.with(SIX + "sets b 60; sets c 660; sets d 61; sets e 359; sets f 360;");
        // OUTS: 0, 60, -60, 61, 359, -360.
        CHECK.due("60: a b, a c, b d", x.near(60), 3);
        CHECK.due("59: b d", x.near(59), 1);
        CHECK.due("1: b d", x.near(1), 1);
        CHECK.due("0", x.near(0), 0);
        CHECK.due("61", x.near(61), -1);
        CHECK.due("-1", x.near(-1), -1);
        CHECK.due("spread", x.spread(), 719);
        x = Check.with("person a plain beats 60; sets a 100;");
        CHECK.due("alone", x.spread(), 0);
        CHECK.due("alone", x.near(60), 0);
        x = Check.with("person a plain beats 60; person b plain beats 60; sets a 100; sets b 130;");
        CHECK.due("both ahead", x.spread(), 30);
    }

    private static void rightAndSteady() {
        WristPort x = Check.with("person a plain beats 64; person b plain beats 60; person c plain beats 56;"
                + "sets a 624; sets c 97;");
        CHECK.due("-96: behind 96", x.right(0), 96);
        CHECK.due("now", x.right(1), 0);
        CHECK.due("97", x.right(2), -1);
        CHECK.due("nobody", x.right(3), -1);
        CHECK.due("nobody", x.right(-1), -1);
        CHECK.due("steady", x.steady(), 1);
        x.fright(1, 10);
        CHECK.due("of equal ones the first", x.steady(), 0);
        // On the hour one who asks may change the most.
        x = Check.with("person a plain beats 60; person b plain beats 64; sets a 9; asks a b;");
        CHECK.due("a goes on rightly", x.steady(), 0);
        x.quarter();
        x.quarter();
        x.quarter();
        CHECK.due("a changes from 9 to 4", x.steady(), 1);
    }

    private static void passes() {
        WristPort x = Check.with("person a plain beats 60; person b plain beats 64; sets a 3;");
        CHECK.due("one QUARTER", x.passes(0, 1, 1), 0);
        CHECK.due("behind yet", x.passes(0, 1, 2), 0);
        CHECK.due("neither any more", x.passes(0, 1, 3), 1);
        CHECK.due("the other one", x.passes(0, 1, 4), 2);
        CHECK.due("no more", x.passes(1, 0, 96), 2);
        CHECK.due("the same", x.passes(0, 0, 5), -1);
        CHECK.due("nobody", x.passes(0, 2, 5), -1);
        CHECK.due("nobody", x.passes(-1, 1, 5), -1);
        for (int bad : new int[] {0, 97, -1}) {
            CHECK.due("passes " + bad, x.passes(0, 1, bad), -1);
        }
        // 4 minutes a QUARTER and 6 behind: from ahead to behind at once.
        x = Check.with("person a plain beats 60; person b plain beats 76; sets a 6;");
        CHECK.due("past at once", x.passes(0, 1, 2), 1);
    }

    private static void teachers() {
        // Behind 24 QUARTERS a is 24 ahead of what she takes now: best is -30, then 0, then 10.
        WristPort x = Check.with("person a plain beats 64; person b plain beats 60; person c plain beats 60;"
                + "person d plain beats 60; sets a 10; sets c 690; sets d 690;");
        CHECK.due("of equal ones the first", x.teacher(0), 2);
        CHECK.due("b is right", x.teacher(1), -1);
        CHECK.due("c should ask b", x.teacher(2), 1);
        CHECK.due("nobody", x.teacher(4), -1);
        CHECK.due("nobody", x.teacher(-1), -1);
        CHECK.due("nobody was asked", x.count(4), 0);
        x = Check.with("person a plain beats 60; sets a 10;");
        CHECK.due("alone", x.teacher(0), -1);
        x = Check.with("person a plain beats 60; person b plain beats 60; sets a 10; sets b 710;");
        CHECK.due("asking nobody is as good", x.teacher(0), -1);
    }

    private static void togethers() {
        WristPort x = Check.with("person a plain beats 60; person b plain beats 64; sets a 50;");
        CHECK.due("behind 50", x.together(), 50);
        x = Check.with("person a plain beats 60; person b plain beats 60; sets a 50;");
        CHECK.due("now, of equal ones", x.together(), 0);
        x = Check.with("person a plain beats 60; person b plain beats 64; sets a 96;");
        CHECK.due("behind 96", x.together(), 96);
        x = Check.with("person a plain beats 60; person b plain beats 64; sets a 97;");
        CHECK.due("the least is 1", x.together(), 96);
        // 5 minutes a QUARTER, 7 behind: -7, -2, 3.
        x = Check.with("person a plain beats 60; person b plain beats 80; sets a 7;");
        CHECK.due("the least is 2", x.together(), 1);
    }

    private static void cures() {
        // 24 minutes behind: a minute a QUARTER more, 64 beats at the least.
        WristPort x = Check.with("person a plain beats 60; person b plain beats 60; sets a 696; sets b 24;");
        CHECK.due("frightened", x.cure(0), 4);
        CHECK.due("soothed", x.cure(1), -1);
        CHECK.due("nobody", x.cure(2), -1000);
        CHECK.due("nobody", x.cure(-1), -1000);
        CHECK.due("nothing is done", x.count(3), 120);
        // 12 minutes behind: 0 and 24 are as far: 0 is the fewest; 12 ahead as well.
        x = Check.with("person a plain beats 60; sets a 708;");
        CHECK.due("none", x.cure(0), 0);
        x = Check.with("person a plain beats 62; sets a 0;");
        CHECK.due("right", x.cure(0), 0);
        // 360 ahead, or behind: 15 a QUARTER less can't be, by 20 beats it is 10 less.
        x = Check.with("person a plain beats 60; sets a 360;");
        CHECK.due("60 beats more are 15 a QUARTER more", x.cure(0), 60);
        // 240 behind: 10 a QUARTER more.
        x = Check.with("person a plain beats 60; sets a 480;");
        CHECK.due("40 more", x.cure(0), 40);
        x = Check.with("person a plain beats 60; sets a 300;");
        CHECK.due("23 beats are 5 a QUARTER as 20 are: the fewest", x.cure(0), -37);
        x = Check.with("person a plain beats 150; sets a 0;");
        // 37 a QUARTER: 22 more each, 528 in all: -192; 40 a QUARTER: 600 in all: -120, by 10.
        // 15 a QUARTER is 60 beats, by -90; -60 is 90 beats: 22 a QUARTER, 168.
        CHECK.due("160 at most", x.cure(0), 10);
        // A calm one is moved as well.
        x = Check.with("person a calm beats 60; sets a 696;");
        CHECK.due("calm", x.cure(0), 4);
        // On the hour a's time is b's: all come to the same.
        x = Check.with("person a plain beats 60; person b plain beats 60; sets b 10; asks a b;");
        CHECK.due("asking is stronger", x.cure(0), 0);
    }

    private static void nobody() {
        WristPort x = new WristPort();
        CHECK.due("comes", x.comes(0), -1);
        CHECK.due("rings", x.rings(), 0);
        CHECK.due("calm", x.calm(), -1);
        CHECK.due("drift", x.drift(0, 1), -1000);
        CHECK.due("near", x.near(0), 0);
        CHECK.due("near", x.near(-1), -1);
        CHECK.due("spread", x.spread(), 0);
        CHECK.due("right", x.right(0), -1);
        CHECK.due("steady", x.steady(), -1);
        CHECK.due("passes", x.passes(0, 1, 1), -1);
        CHECK.due("hub", x.hub(), -1);
        CHECK.due("teacher", x.teacher(0), -1);
        CHECK.due("together", x.together(), 0);
        CHECK.due("cure", x.cure(0), -1000);
    }
}
