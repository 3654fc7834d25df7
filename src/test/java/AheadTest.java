/** Promises 12 to 22: later, worst, middle, noon, first, meet, ordered, round, askings, train, missed. */
public final class AheadTest {
    private static final Check CHECK = new Check("AheadTest");

    public static void main(String[] args) {
        laters();
        outs();
        noons();
        meets();
        rounds();
        askings();
        trains();
        CHECK.end();
    }

    private static void laters() {
        // 64 beats: a minute ahead each QUARTER; 56: a minute behind.
        WristPort x = Check.with("person a plain beats 64; person b plain beats 56; sets a 300;");
        CHECK.due("now", x.later(0, 0), 300);
        CHECK.due("one", x.later(0, 1), 301);
        CHECK.due("59", x.later(0, 59), 359);
        CHECK.due("round the twelve hours", x.later(0, 60), -360);
        CHECK.due("96", x.later(0, 96), -324);
        CHECK.due("behind", x.later(1, 96), -96);
        CHECK.due("97", x.later(0, 97), -1000);
        CHECK.due("-1", x.later(0, -1), -1000);
        CHECK.due("nobody", x.later(2, 1), -1000);
        CHECK.due("nobody", x.later(-1, 1), -1000);
        CHECK.due("nothing is done", x.count(1), 0);
        x.quarter();
        CHECK.due("from now on", x.later(0, 2), 303);
        x = Check.with("person a plain beats 60; person b plain beats 80; asks a b; moods asked ;");
        CHECK.due("asked on the hour", x.later(0, 4), 20);
        CHECK.due("who was asked is quicker then: 81, 82, 83, 84", x.later(1, 8), 41);
    }

    private static void outs() {
        WristPort x = Check.with("person a plain beats 60; person b plain beats 60; person c plain beats 60;"
                + "person d plain beats 60; person e plain beats 60;"
                + "sets a 20; sets b 690; sets c 30; sets d 700; sets e 20;");
        // OUTS: 20, -30, 30, -20, 20.
        CHECK.due("of equal ones the first", x.worst(), 1);
        CHECK.due("-30 -20 [20] 20 30", x.middle(), 20);
        int[] order = {2, 0, 4, 3, 1};
        for (int i = 0; i < 5; i++) {
            CHECK.due("ordered " + i, x.ordered(i), order[i]);
        }
        CHECK.due("ordered 5", x.ordered(5), -1);
        CHECK.due("ordered -1", x.ordered(-1), -1);
        x = Check.with("person a plain beats 60; person b plain beats 60; sets a 5; sets b 360;");
        CHECK.due("-360 is the farthest", x.worst(), 1);
        CHECK.due("of two the greater one", x.middle(), 5);
        x = new WristPort();
        CHECK.due("nobody", x.worst(), -1);
        CHECK.due("nobody", x.middle(), -1000);
        CHECK.due("nobody", x.ordered(0), -1);
    }

    private static void noons() {
        WristPort x = Check.with("person a plain beats 60; person b plain beats 60; person c plain beats 40;"
                + "person d plain beats 20; sets a 705; sets b 706; sets c 700; sets d 1;");
        CHECK.due("to 0", x.noon(0), 1);
        CHECK.due("past it", x.noon(1), 1);
        CHECK.due("710, 720", x.noon(2), 2);
        CHECK.due("1 and 96 times 5 is 481", x.noon(3), -1);
        CHECK.due("of equal ones the first", x.first(), 0);
        CHECK.due("nobody", x.noon(4), -1);
        CHECK.due("nobody", x.noon(-1), -1);
        x.quarter();
        CHECK.due("0 again is far from 0", x.noon(0), 48);
        CHECK.due("now it is the third", x.first(), 2);
        // On the hour b is set from 700 to 5 by asking: that is no noon.
        x = Check.with("person a plain beats 20; person b plain beats 20; sets a 705; sets b 660; asks b a;");
        CHECK.due("705, 710, 715, 720", x.noon(0), 3);
        CHECK.due("set past it by asking, 5 then, never past it", x.noon(1), -1);
        CHECK.due("first", x.first(), 0);
        x = Check.with("person a plain beats 20;");
        CHECK.due("none", x.first(), -1);
        CHECK.due("none", x.noon(0), -1);
        CHECK.due("nobody's", new WristPort().first(), -1);
        x = Check.with("person a plain beats 28; sets a 48;");
        CHECK.due("by the 96th", x.noon(0), 96);
        CHECK.due("first by the 96th", x.first(), 0);
        x = Check.with("person a plain beats 28; sets a 47;");
        CHECK.due("by the 97th", x.noon(0), -1);
        CHECK.due("first by the 97th", x.first(), -1);
    }

    private static void meets() {
        WristPort x = Check.with("person a plain beats 60; person b plain beats 64; person c plain beats 60;"
                + "sets a 96; sets c 95;");
        CHECK.due("behind 96", x.meet(0, 1), 96);
        CHECK.due("behind 95", x.meet(1, 2), 95);
        CHECK.due("never", x.meet(0, 2), -1);
        CHECK.due("the same", x.meet(0, 0), -1);
        CHECK.due("nobody", x.meet(0, 3), -1);
        CHECK.due("nobody", x.meet(-1, 0), -1);
        x.ask(0, 2);
        CHECK.due("now", x.meet(0, 2), 0);
        x = Check.with("person a plain beats 60; person b plain beats 64; sets a 97;");
        CHECK.due("behind 97", x.meet(0, 1), -1);
        x = Check.with("person a plain beats 60; person b plain beats 64; sets a 97; asks b a;");
        CHECK.due("by asking", x.meet(0, 1), 4);
    }

    private static void rounds() {
        // b goes on 2 minutes too much, c 5 too much: c should be last.
        WristPort x = Check.with("person a plain beats 60; person b plain beats 68; person c plain beats 80;");
        CHECK.due("b 4, c 5", x.round(0, -1), 9);
        CHECK.due("b", x.round(0, 0), 1);
        CHECK.due("c", x.round(0, 1), 2);
        CHECK.due("no more", x.round(0, 2), -2);
        CHECK.due("others", x.round(0, -2), -2);
        CHECK.due("nobody", x.round(3, -1), -2);
        CHECK.due("nobody", x.round(-1, 0), -2);
        x.fright(1, 40);
        // b 12 a QUARTER: c, b: c 10, b 12; b, c: b 24, c 5.
        CHECK.due("c first", x.round(0, 0), 2);
        CHECK.due("22", x.round(0, -1), 22);
        CHECK.due("all stays", x.count(4), 0);
        x = Check.with("person a plain beats 60; sets a 700;");
        CHECK.due("no others: now", x.round(0, -1), 20);
        CHECK.due("no others", x.round(0, 0), -2);
        x = Check.with("person a plain beats 60; person b plain beats 60; person c plain beats 60;"
                + "person d plain beats 60; person e plain beats 60; person f plain beats 60; sets c 7;");
        CHECK.due("all of them 7", x.round(2, -1), 42);
        int[] row = {0, 1, 3, 4, 5, -2};
        for (int i = 0; i < row.length; i++) {
            CHECK.due("the first row " + i, x.round(2, i), row[i]);
        }
        // The later one asks, the less they are OUT: the quickest one last, so all backwards.
        x = Check.with("person a plain beats 60; person b plain beats 80; person c plain beats 76;"
                + "person d plain beats 72; person e plain beats 68; person f plain beats 64;");
        int[] back = {5, 4, 3, 2, 1};
        for (int i = 0; i < back.length; i++) {
            CHECK.due("the quickest one last " + i, x.round(0, i), back[i]);
        }
        // f 5 quarters by 1, e 4 by 2, d 3 by 3, c 2 by 4, b 1 by 5.
        CHECK.due("how much", x.round(0, -1), 5 + 8 + 9 + 8 + 5);
    }

    private static void askings() {
        WristPort x = Check.with("person a plain beats 60; person b plain beats 60; person c plain beats 60;"
                + "person d plain beats 60; person e plain beats 60;"
                + "sets a 0; sets b 30; sets c 60; sets d 61; sets e 715;");
        // OUTS: 0, 30, 60, 61, -5.
        CHECK.due("60: three can stay: -5 0 30 (12), 0 30 60 (24), 30 60 61 (17)", x.askings(60), 12);
        CHECK.due("34: 30 60 61 alone", x.askings(34), 17);
        CHECK.due("30: two can stay: -5 0 (14), 0 30 (28), 30 60 (25), 60 61 (19)", x.askings(30), 14);
        CHECK.due("5: a e, or c d", x.askings(5), 14);
        CHECK.due("1: c d", x.askings(1), 19);
        CHECK.due("0: one alone", x.askings(0), 15);
        CHECK.due("others", x.askings(61), -1);
        CHECK.due("others", x.askings(-1), -1);
        x = Check.with("person a plain beats 60; person b plain beats 60; sets a 359; sets b 360;");
        CHECK.due("OUTS are 719 apart", x.askings(60), 1);
        x = Check.with("person a plain beats 60;");
        CHECK.due("alone", x.askings(0), 0);
        CHECK.due("nobody", new WristPort().askings(60), 0);
        CHECK.due("others", new WristPort().askings(-1), -1);
    }

    private static void trains() {
        WristPort x = Check.with("person a plain beats 56; person b plain beats 64; person c plain beats 60;"
                + "sets a 2; sets b 715; sets c 360;");
        CHECK.due("ahead", x.train(0, 1), 0);
        CHECK.due("right", x.train(0, 2), 0);
        CHECK.due("behind", x.train(0, 96), 94);
        CHECK.due("behind yet", x.train(1, 4), 1);
        CHECK.due("360", x.train(2, 1), 360);
        CHECK.due("missed", x.missed(1), 6);
        CHECK.due("missed", x.missed(3), 7);
        CHECK.due("missed", x.missed(5), 5);
        for (int bad : new int[] {0, 97, -1}) {
            CHECK.due("train in " + bad, x.train(0, bad), -1);
            CHECK.due("missed in " + bad, x.missed(bad), -1);
        }
        CHECK.due("nobody", x.train(3, 1), -1);
        CHECK.due("nobody", x.train(-1, 1), -1);
        CHECK.due("96", x.missed(96), 5);
        CHECK.due("nobody misses it", new WristPort().missed(1), 0);
    }
}
