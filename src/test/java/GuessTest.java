/** Promises 23 to 28: see, pairs, look, tell, fits, when. */
public final class GuessTest {
    private static final Check CHECK = new Check("GuessTest");
    private static final String THREE = "person a plain beats 60; person b plain beats 64; person c plain beats 60;"
            + "sets b 10; sets c 30;";

    public static void main(String[] args) {
        sees();
        pairs();
        looks();
        tells();
        fits();
        whens();
        CHECK.end();
    }

    private static void sees() {
        WristPort x = Check.with(THREE);
        CHECK.due("nobody", x.see(3, 0, 0), false);
        CHECK.due("nobody", x.see(-1, 0, 0), false);
        CHECK.due("25", x.see(0, 25, 0), false);
        CHECK.due("-1", x.see(0, -1, 0), false);
        CHECK.due("360", x.see(0, 0, 360), false);
        CHECK.due("-361", x.see(0, 0, -361), false);
        CHECK.due("none", x.count(7), 0);
        CHECK.due("edge", x.see(2, 24, 359), true);
        CHECK.due("edge", x.see(0, 0, -360), true);
        for (int i = 3; i <= 6; i++) {
            CHECK.due("see " + i, x.see(0, 1, 1), true);
        }
        CHECK.due("6 there are", x.see(0, 1, 1), false);
        CHECK.due("six", x.count(7), 6);
        CHECK.due("alone, too", Check.with("person a old beats 20;").see(0, 0, 0), true);
    }

    private static void pairs() {
        WristPort x = Check.with(THREE);
        CHECK.due("all", x.pairs(0), 6);
        CHECK.due("all", x.pairs(1), 7);
        CHECK.due("all", x.pairs(2), 7);
        CHECK.due("others", x.pairs(3), -1);
        CHECK.due("others", x.pairs(-1), -1);
        // a is at 0: a was not the one who asked.
        x.see(0, 0, 0);
        CHECK.due("b or c asked", x.pairs(0), 4);
        CHECK.due("b or c asked", x.pairs(1), 6);
        CHECK.due("anyone was", x.pairs(2), 7);
        // b, who goes a minute ahead, is 5 ahead behind 5: b asked a.
        x.see(1, 5, 5);
        CHECK.due("b asked a", x.pairs(0), 1);
        CHECK.due("b asked a", x.pairs(1), 2);
        CHECK.due("b asked a", x.pairs(2), 1);
        x.see(2, 24, 30);
        CHECK.due("c did not", x.pairs(0), 1);
        x.see(2, 24, 31);
        CHECK.due("none", x.pairs(0), 0);
        CHECK.due("none", x.pairs(1), 0);
        CHECK.due("none", x.pairs(2), 0);
        CHECK.due("nothing is asked", x.count(4), 0);
        CHECK.due("nobody", new WristPort().pairs(0), 0);
        // On the hour all is a's; so just the times ahead of it tell.
        x = Check.with(THREE + "asks b a; asks c a;");
        x.see(2, 4, 0);
        CHECK.due("all but what set a: c stays a's", x.pairs(0), 4);
        CHECK.due("not a", x.pairs(1), 6);
        // Whoever was asked is quicker by moods.
        x = Check.with("person a plain beats 60; person b plain beats 60; person c plain beats 60; moods asked * 4;");
        x.see(2, 2, 1);
        CHECK.due("c was asked", x.pairs(0), 2);
        CHECK.due("c was asked", x.pairs(1), 3);
        CHECK.due("c was asked", x.pairs(2), 4);
        x.undo();
        x.quarter();
        CHECK.due("seen from now on", x.pairs(2), 4);
    }

    private static void looks() {
        WristPort x = Check.with(THREE);
        // By PAIRS a is at 10 (one), 30 (one), 0 (four): 4 of 6 at the least, at once.
        CHECK.due("at once", x.look(0), 0);
        CHECK.due("nobody", x.look(3), -1);
        CHECK.due("nobody", x.look(-1), -1);
        x.see(0, 0, 0);
        CHECK.due("none parts them", x.look(0), -1);
        CHECK.due("b: 0, 30, twice 10", x.look(1), 0);
        x.see(1, 0, 10);
        // c asked a (c at 0) or c asked b (c at 10): b and a stay.
        CHECK.due("c parts them", x.look(2), 0);
        CHECK.due("b does not", x.look(1), -1);
        x.see(2, 0, 77);
        CHECK.due("there is none", x.look(2), -1);
        CHECK.due("nobody", new WristPort().look(0), -1);
        // Two as one in time: only by moods, later, who was asked shows.
        x = Check.with("person a plain beats 60; person b plain beats 60; person c plain beats 60; moods asked * 4;");
        // c asked by two of six: beats 60 till then, 64 behind the first QUARTER, so 1 ahead behind the second.
        CHECK.due("the second one", x.look(2), 2);
        x = Check.with("person a plain beats 60; person b plain beats 60;");
        CHECK.due("nothing parts them", x.look(0), -1);
        x = Check.with("person a plain beats 60; person b plain beats 60; moods asked * (out = 0) * (hour = 5);");
        // hour 5 is from the 20th QUARTER on: 61, 62, 63, 64 behind the 23rd, and a minute ahead behind the 24th.
        CHECK.due("the last", x.look(0), 24);
        x = Check.with("person a plain beats 60; person b plain beats 60; moods asked * (out = 0) * (hour = 6);");
        CHECK.due("too late", x.look(0), -1);
    }

    private static void tells() {
        WristPort x = new WristPort();
        CHECK.due("0", x.tell(0, 0), false);
        CHECK.due("41", x.tell(41, 0), false);
        CHECK.due("360", x.tell(1, 360), false);
        CHECK.due("-361", x.tell(1, -361), false);
        CHECK.due("none", x.count(8), 0);
        CHECK.due("edge", x.tell(40, 359), true);
        CHECK.due("edge", x.tell(1, -360), true);
        for (int i = 3; i <= 6; i++) {
            CHECK.due("tell " + i, x.tell(1, 0), true);
        }
        CHECK.due("6 there are", x.tell(1, 0), false);
        CHECK.due("six", x.count(8), 6);
    }

    private static void fits() {
        WristPort x = new WristPort();
        CHECK.due("all", x.fits(0), 141);
        CHECK.due("all", x.fits(1), 20);
        CHECK.due("all", x.fits(2), 160);
        CHECK.due("others", x.fits(3), -1);
        CHECK.due("others", x.fits(-1), -1);
        // 10 a QUARTER: 24 * -5 is -120; 40 a QUARTER: 24 * 25 is 600, round the twelve hours -120.
        x.tell(24, -120);
        CHECK.due("40 to 43, and 160", x.fits(0), 5);
        CHECK.due("40", x.fits(1), 40);
        CHECK.due("160", x.fits(2), 160);
        x.tell(1, 25);
        CHECK.due("160", x.fits(0), 1);
        CHECK.due("160", x.fits(1), 160);
        CHECK.due("160", x.fits(2), 160);
        x.quarter();
        CHECK.due("from now on", x.fits(0), 1);
        x.tell(1, 24);
        CHECK.due("none", x.fits(0), 0);
        CHECK.due("none", x.fits(1), -1);
        CHECK.due("none", x.fits(2), -1);
        x = new WristPort();
        x.tell(36, -360);
        CHECK.due("-10 * 36, +10 * 36", x.fits(0), 8);
        CHECK.due("20", x.fits(1), 20);
        CHECK.due("103", x.fits(2), 103);
    }

    /** Six that are so, then fewer: what is no longer SEEN or TOLD counts no more. */
    private static void sixOfEach() {
        WristPort x = Check.with(THREE);
        x.mark(0, false);
        for (int i = 1; i <= 6; i++) {
            x.tell(i, -i);
            x.see(1, 4 * i, 4 * i);
        }
        CHECK.due("56 to 59", x.fits(0), 4);
        CHECK.due("b asked a", x.pairs(1), 2);
        CHECK.due("b asked a", x.pairs(2), 1);
        x.mark(1, false);
        x.mark(0, true);
        CHECK.due("none TOLD", x.fits(0), 141);
        CHECK.due("none SEEN", x.pairs(0), 6);
        for (int i = 1; i <= 6; i++) {
            x.tell(40, 0);
            x.see(0, 3, 10);
        }
        CHECK.due("other ones", x.fits(1), 60);
        CHECK.due("other ones", x.pairs(1), 1);
        x.mark(1, true);
        CHECK.due("TOLD again", x.fits(0), 4);
        CHECK.due("SEEN again", x.pairs(0), 1);
        Check.port(x, THREE);
        CHECK.due("a new PORT", x.fits(0), 141);
        CHECK.due("a new PORT", x.pairs(0), 6);
    }

    private static void whens() {
        WristPort x = new WristPort();
        CHECK.due("at once", x.when(), 1);
        x.tell(36, -360);
        CHECK.due("at once", x.when(), 1);
        x.tell(1, -10);
        CHECK.due("none parts them", x.when(), -1);
        x.tell(1, -9);
        CHECK.due("none there", x.when(), -1);
        x = new WristPort();
        x.tell(1, 25);
        CHECK.due("160 alone", x.when(), -1);
        sixOfEach();
    }
}
