/** Promises 6 to 11 and 45: ask, fright, soothe, quarter, undo, judged, mark. */
public final class HandTest {
    private static final Check CHECK = new Check("HandTest");
    private static final String THREE = "person a plain beats 60;person b child beats 63;person c old beats 59;";

    public static void main(String[] args) {
        asks();
        beats();
        quarters();
        hours();
        undoes();
        judges();
        marks();
        CHECK.end();
    }

    private static void asks() {
        WristPort x = Check.with(THREE + "sets a 100; sets b 200;");
        CHECK.due("ask", x.ask(0, 1), 200);
        CHECK.due("the first one's time", x.person(0, 2), 200);
        CHECK.due("the second one's time", x.person(1, 2), 200);
        CHECK.due("the second one was asked", x.person(1, 4), 1);
        CHECK.due("the first one was not", x.person(0, 4), 0);
        CHECK.due("once more", x.ask(2, 1), 200);
        CHECK.due("twice", x.person(1, 4), 2);
        CHECK.due("all together", x.count(4), 2);
        CHECK.due("the same", x.ask(1, 1), -1);
        CHECK.due("others", x.ask(3, 1), -1);
        CHECK.due("others", x.ask(-1, 1), -1);
        CHECK.due("others", x.ask(1, 3), -1);
        CHECK.due("others", x.ask(1, -1), -1);
        CHECK.due("nothing was done by these", x.count(9), 2);
    }

    private static void beats() {
        WristPort x = Check.with(THREE + "person d calm beats 60;");
        CHECK.due("fright", x.fright(0, 1), 61);
        CHECK.due("fright of a calm one", x.fright(3, 60), 120);
        CHECK.due("160 at most", x.fright(3, 60), 160);
        CHECK.due("and once more", x.fright(3, 1), 160);
        CHECK.due("these can be undone", x.count(9), 4);
        CHECK.due("soothe", x.soothe(1, 1), 62);
        CHECK.due("20 at least", x.soothe(2, 60), 20);
        CHECK.due("and once more", x.soothe(2, 1), 20);
        CHECK.due("of all", x.count(3), 61 + 62 + 20 + 160);
        for (int bad : new int[] {0, 61, -1}) {
            CHECK.due("fright by " + bad, x.fright(0, bad), -1);
            CHECK.due("soothe by " + bad, x.soothe(0, bad), -1);
        }
        for (int bad : new int[] {-1, 4}) {
            CHECK.due("fright of " + bad, x.fright(bad, 1), -1);
            CHECK.due("soothe of " + bad, x.soothe(bad, 1), -1);
        }
        CHECK.due("nothing was done by these", x.count(9), 7);
        CHECK.due("beats stay", x.person(0, 1), 61);
    }

    private static void quarters() {
        WristPort x = Check.with(THREE + "sets c 719;");
        CHECK.due("quarter", x.quarter(), 15);
        CHECK.due("plain: 60 / 4", x.person(0, 2), 15);
        CHECK.due("child: 63 / 4, cut, and 2", x.person(1, 2), 17);
        CHECK.due("old: 59 / 4, cut, less 2, round", x.person(2, 2), 11);
        CHECK.due("its OUT", x.person(2, 3), -4);
        for (int q = 2; q < 48; q++) {
            CHECK.due("true time", x.quarter(), 15 * q);
        }
        CHECK.due("round", x.quarter(), 0);
        CHECK.due("plain", x.person(0, 2), 0);
        CHECK.due("child", x.person(1, 2), 17 * 48 - 720);
        CHECK.due("old", x.person(2, 2), (719 + 12 * 48) % 720);
        CHECK.due("quarters", x.count(1), 48);
    }

    private static void hours() {
        // By numbers: a takes b's time ahead of b's own asking; c takes a's new one.
        WristPort x = Check.with(THREE + "sets a 10; sets b 20; sets c 30; asks a b; asks b c; asks c a;");
        x.quarter();
        x.quarter();
        x.quarter();
        CHECK.due("not on the hour", x.count(4), 0);
        x.quarter();
        CHECK.due("a asked b", x.person(0, 2), 20 + 4 * 17);
        CHECK.due("b asked c", x.person(1, 2), 30 + 4 * 12);
        CHECK.due("c asked a, who had asked", x.person(2, 2), 20 + 4 * 17);
        CHECK.due("asked", x.count(4), 3);
        x.undo();
        CHECK.due("not asked", x.count(4), 0);
        x.quarter();
        CHECK.due("asked again", x.count(4), 3);
        for (int q = 0; q < 4; q++) {
            x.quarter();
        }
        CHECK.due("each fourth", x.count(4), 6);
    }

    private static void undoes() {
        WristPort x = Check.with(THREE + "sets b 50;");
        x.quarter();
        x.ask(0, 1);
        x.fright(0, 10);
        x.soothe(1, 10);
        CHECK.due("undo soothe", x.undo(), true);
        CHECK.due("beats", x.person(1, 1), 63);
        CHECK.due("undo fright", x.undo(), true);
        CHECK.due("beats", x.person(0, 1), 60);
        CHECK.due("undo ask", x.undo(), true);
        CHECK.due("time", x.person(0, 2), 15);
        CHECK.due("asked", x.person(1, 4), 0);
        CHECK.due("undo quarter", x.undo(), true);
        CHECK.due("true time", x.count(2), 0);
        CHECK.due("time", x.person(1, 2), 50);
        CHECK.due("nothing can be", x.undo(), false);
        for (int i = 0; i < 20; i++) {
            x.quarter();
        }
        CHECK.due("the last 16", x.count(9), 16);
        for (int i = 0; i < 16; i++) {
            CHECK.due("one by one", x.undo(), true);
            CHECK.due("quarters", x.count(1), 19 - i);
        }
        CHECK.due("not the 17th", x.undo(), false);
        CHECK.due("four stay", x.count(1), 4);
        x.see(0, 0, 0);
        x.tell(1, 0);
        x.quarter();
        x.undo();
        CHECK.due("SEEN stays", x.count(7), 1);
        CHECK.due("TOLD stays", x.count(8), 1);
        CHECK.due("SEEN is nothing to be undone", x.undo(), false);
    }

    private static void judges() {
        WristPort x = new WristPort();
        CHECK.due("no line", x.judged(0), -1);
        CHECK.due("nobody", x.judged(1), 0);
        CHECK.due("nobody asked", x.judged(2), 0);
        CHECK.due("others", x.judged(3), -2);
        CHECK.due("others", x.judged(-1), -2);
        // 80 beats are 5 minutes a QUARTER ahead: 60 behind the twelfth.
        x = Check.with("person a plain beats 80; person b plain beats 60; asks b a;");
        CHECK.due("a DAY", Check.day(x, "quarter;".repeat(12)), 0);
        CHECK.due("60 is enough", x.judged(0), 11);
        CHECK.due("how far", x.judged(1), 60);
        CHECK.due("asked on the hour", x.judged(2), 3);
        Check.day(x, "quarter;".repeat(11));
        CHECK.due("none", x.judged(0), -1);
        CHECK.due("how far", x.judged(1), 55);
        x.quarter();
        x.ask(0, 1);
        x.fright(0, 60);
        CHECK.due("from the begin", x.judged(1), 55);
        CHECK.due("from the begin", x.judged(2), 2);
        CHECK.due("it stays", x.count(1), 1);
        // 20 beats are 10 minutes behind.
        x = Check.with("person a plain beats 40; person b plain beats 60;");
        Check.day(x, "soothe a 20; quarter;quarter;quarter;quarter;quarter;quarter; ask a b; fright a 60; quarter;");
        CHECK.due("behind is OUT too", x.judged(0), 6);
        CHECK.due("80 / 4 at last", x.judged(1), 5);
        CHECK.due("once", x.judged(2), 1);
        x = Check.with("person a plain beats 60; sets a 300; person b plain beats 60;");
        CHECK.due("no line, but far", x.judged(0), -1);
        CHECK.due("far", x.judged(1), 300);
        Check.day(x, "ask a b; quarter;");
        CHECK.due("right behind the first", x.judged(0), -1);
        CHECK.due("right", x.judged(1), 0);
        Check.day(x, "quarter; ask a b;");
        CHECK.due("behind the first", x.judged(0), 0);
    }

    private static void marks() {
        WristPort x = Check.with(THREE);
        CHECK.due("nothing on it", x.mark(0, true), false);
        x.quarter();
        x.see(0, 0, 5);
        x.tell(1, 5);
        CHECK.due("laid", x.mark(3, false), true);
        CHECK.due("laying undoes nothing", x.count(9), 1);
        x.quarter();
        x.ask(0, 1);
        x.fright(2, 5);
        x.see(1, 0, 5);
        x.tell(2, 5);
        Check.day(x, "quarter;");
        CHECK.due("gone back to", x.mark(3, true), true);
        int[] due = {3, 1, 15, 182, 0, 6, 1, 1, 1, 0, 0};
        for (int what = 0; what < due.length; what++) {
            CHECK.due("as it was " + what, x.count(what), due[what]);
        }
        CHECK.due("time", x.person(0, 2), 15);
        CHECK.due("beats", x.person(2, 1), 59);
        CHECK.due("nothing can be undone", x.undo(), false);
        x.quarter();
        x.see(1, 0, 9);
        CHECK.due("once more", x.mark(3, true), true);
        CHECK.due("quarters", x.count(1), 1);
        CHECK.due("seen", x.count(7), 1);
        x.quarter();
        CHECK.due("laid anew", x.mark(3, false), true);
        x.undo();
        CHECK.due("the new one", x.mark(3, true), true);
        CHECK.due("quarters", x.count(1), 2);
        CHECK.due("another one", x.mark(2, true), false);
        for (int bad : new int[] {-1, 4}) {
            CHECK.due("none such", x.mark(bad, false), false);
            CHECK.due("none such", x.mark(bad, true), false);
        }
    }
}
