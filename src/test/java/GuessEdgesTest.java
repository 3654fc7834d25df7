/** Edges of what is SEEN and TOLD: section 3, promises 23 to 28. */
public final class GuessEdgesTest {
    private static final Check CHECK = new Check("GuessEdgesTest");
    private static final int[] NOBODY = {-1, 3, 6, Integer.MIN_VALUE, Integer.MAX_VALUE};
    private static final int[] NO_WHAT = {-1, 3, -2, Integer.MIN_VALUE, Integer.MAX_VALUE};
    private static final String THREE = "person a plain beats 60;person b plain beats 60;person c plain beats 60;"
            + "sets b 10;sets c 30;";

    public static void main(String[] args) {
        seenOf0To24Quarters();
        seenFrom360BehindTo359();
        seenOfAPerson();
        seen6AtMost();
        pairsWhat();
        pairsOfFewAndOfSix();
        pairsOfJustOneAskingNow();
        pairsAtBothEnds();
        seenInAnyOrder();
        look0To24();
        lookIfLessThanAll();
        lookForTheLeast();
        lookByEachOfThirty();
        lookAtBothEnds();
        toldOf1To40Quarters();
        toldFrom360BehindTo359();
        told6AtMost();
        fitsFrom20To160();
        fitsRoundTheTwelveHours();
        fitsWhat();
        whenPartsThem();
        CHECK.end();
    }

    /** "behind so many (0 to 24) QUARTERS"; "false: others". */
    private static void seenOf0To24Quarters() {
        for (int q = -2; q <= 27; q++) {
            WristPort x = Check.with(THREE);
            boolean fine = q >= 0 && q <= 24;
            CHECK.due("see behind " + q, x.see(0, q, 0), fine);
            CHECK.due("SEEN", x.count(7), fine ? 1 : 0);
            CHECK.due("PAIRS", x.pairs(0), fine ? 4 : 6);
        }
        CHECK.due("far", Check.with(THREE).see(0, Integer.MIN_VALUE, 0), false);
        CHECK.due("far", Check.with(THREE).see(0, Integer.MAX_VALUE, 0), false);
    }

    /** "so far OUT (-360 to 359)". */
    private static void seenFrom360BehindTo359() {
        int[][] due = {{-361, 0}, {-360, 1}, {-359, 1}, {0, 1}, {358, 1}, {359, 1}, {360, 0}, {720, 0}, {-720, 0},
            {Integer.MIN_VALUE, 0}, {Integer.MAX_VALUE, 0}};
        for (int[] one : due) {
            WristPort x = Check.with(THREE);
            CHECK.due("see " + one[0], x.see(0, 0, one[0]), one[1] == 1);
            CHECK.due("SEEN", x.count(7), one[1]);
        }
    }

    /** "that a PERSON is": others are refused. */
    private static void seenOfAPerson() {
        WristPort x = Check.with(THREE);
        for (int who : NOBODY) {
            CHECK.due("see " + who, x.see(who, 0, 0), false);
        }
        CHECK.due("none", x.count(7), 0);
        for (int who = 0; who < 3; who++) {
            CHECK.due("see " + who, x.see(who, 0, 0), true);
        }
        CHECK.due("three", x.count(7), 3);
        CHECK.due("nobody", new WristPort().see(0, 0, 0), false);
        CHECK.due("alone", Check.with("person a old beats 20;").see(0, 0, 0), true);
    }

    /** "6 at most"; "false: .. 6 there are". */
    private static void seen6AtMost() {
        WristPort x = Check.with(THREE);
        for (int i = 1; i <= 6; i++) {
            CHECK.due("see " + i, x.see(0, i, 0), true);
            CHECK.due("SEEN", x.count(7), i);
        }
        for (int i = 0; i < 3; i++) {
            CHECK.due("6 there are", x.see(1, 0, 10), false);
        }
        CHECK.due("six", x.count(7), 6);
        CHECK.due("the seventh does not count", x.pairs(0), 4);
        // The sixth counts: c is at 30 yet, so b asked.
        x = Check.with(THREE);
        for (int i = 1; i <= 5; i++) {
            x.see(0, i, 0);
        }
        x.see(2, 24, 30);
        CHECK.due("b asked", x.pairs(1), 2);
        CHECK.due("the same once more is SEEN, too", Check.with(THREE).see(0, 0, 0), true);
        Check.port(x, THREE);
        CHECK.due("none by a new PORT", x.count(7), 0);
        CHECK.due("room again", x.see(0, 0, 0), true);
    }

    /** "PAIRS, what 0: how many, 1: who asked, 2: who was (bits); NONE: others". */
    private static void pairsWhat() {
        WristPort x = Check.with(THREE);
        for (int what : NO_WHAT) {
            CHECK.due("what " + what, x.pairs(what), -1);
            CHECK.due("nobody, what " + what, new WristPort().pairs(what), -1);
        }
        x.see(2, 0, 10);
        CHECK.due("how many", x.pairs(0), 1);
        CHECK.due("c asked", x.pairs(1), 4);
        CHECK.due("b was", x.pairs(2), 2);
        x.see(2, 0, 11);
        for (int what = 0; what < 3; what++) {
            CHECK.due("none", x.pairs(what), 0);
        }
    }

    private static String alike(int many) {
        StringBuilder s = new StringBuilder();
        for (int i = 0; i < many; i++) {
            s.append("person ").append((char) ('a' + i)).append(" plain beats 60;");
        }
        return s.toString();
    }

    /** Nobody and one alone make no pair; six make thirty. */
    private static void pairsOfFewAndOfSix() {
        int[] due = {0, 0, 2, 6, 12, 20, 30};
        for (int many = 0; many <= 6; many++) {
            WristPort x = Check.with(alike(many));
            CHECK.due("pairs of " + many, x.pairs(0), due[many]);
            CHECK.due("who", x.pairs(1), many < 2 ? 0 : (1 << many) - 1);
            CHECK.due("whom", x.pairs(2), many < 2 ? 0 : (1 << many) - 1);
            CHECK.due("none parts them", x.look(0), -1);
        }
        // Thirty, and each of them is looked at: f, who was asked, shows behind the second QUARTER: 25 and 5.
        CHECK.due("thirty", Check.with(alike(6) + "moods asked * 4;").look(5), 2);
        WristPort x = Check.with(alike(6) + "moods asked * 4;");
        x.see(5, 2, 1);
        CHECK.due("five", x.pairs(0), 5);
        CHECK.due("five", x.pairs(1), 31);
        CHECK.due("f", x.pairs(2), 32);
    }

    /** "if just one of them, an unknown one, had ASKED another one, unknown, now". */
    private static void pairsOfJustOneAskingNow() {
        WristPort x = Check.with(THREE);
        // a at 10 and b at 0 can't be by one asking.
        x.see(0, 0, 10);
        CHECK.due("a asked b", x.pairs(0), 1);
        x.see(1, 0, 0);
        CHECK.due("not both", x.pairs(0), 0);
        // Now is when it is asked: from the next QUARTER on a has 10 by hand.
        x = Check.with(THREE);
        x.see(2, 0, 10);
        CHECK.due("c asked b", x.pairs(2), 2);
        x.ask(0, 1);
        CHECK.due("c asked a or b", x.pairs(2), 3);
        x.undo();
        CHECK.due("c asked b", x.pairs(2), 2);
        x.quarter();
        CHECK.due("OUT is as it was", x.pairs(2), 2);
    }

    /** SEEN at -360 and 359, behind 0 and 24 QUARTERS, is found to be so. */
    private static void pairsAtBothEnds() {
        String two = "person a plain beats 60;person b plain beats 60;sets b ";
        for (int q : new int[] {0, 24}) {
            WristPort x = Check.with(two + "360;");
            x.see(0, q, -360);
            CHECK.due("a asked b", x.pairs(1), 1);
            x = Check.with(two + "359;");
            x.see(0, q, 359);
            CHECK.due("a asked b", x.pairs(1), 1);
            x = Check.with(two + "359;");
            x.see(0, q, 358);
            CHECK.due("neither", x.pairs(0), 0);
        }
        // 25 minutes a QUARTER, 24 times: 600, round the twelve hours -120.
        WristPort x = Check.with("person a plain beats 160;person b plain beats 60;sets a 7;");
        x.see(0, 24, -120);
        CHECK.due("a asked b", x.pairs(1), 1);
        x = Check.with("person a plain beats 160;person b plain beats 60;sets a 7;");
        x.see(0, 24, -113);
        CHECK.due("b asked a", x.pairs(1), 2);
    }

    /** "all SEEN is so": what is to be later may be SEEN sooner. */
    private static void seenInAnyOrder() {
        WristPort x = Check.with(THREE);
        x.see(0, 24, 10);
        CHECK.due("a asked b", x.pairs(0), 1);
        x.see(2, 0, 30);
        CHECK.due("a asked b yet", x.pairs(0), 1);
        CHECK.due("a", x.pairs(1), 1);
        CHECK.due("b", x.pairs(2), 2);
        x.see(1, 12, 11);
        CHECK.due("none", x.pairs(0), 0);
    }

    /** "LOOK for a PERSON: the least number of QUARTERS (0 to 24)"; "NONE: others, none parts them". */
    private static void look0To24() {
        CHECK.due("at once", Check.with(THREE).look(0), 0);
        for (int who : NOBODY) {
            CHECK.due("look for " + who, Check.with(THREE).look(who), -1);
        }
        CHECK.due("nobody", new WristPort().look(0), -1);
        // Whoever was asked has 20 beats more behind each QUARTER that ends in that hour; it shows behind the next one.
        String two = alike(2) + "moods asked * 20 * (hour = ";
        for (int hour = 0; hour <= 5; hour++) {
            CHECK.due("hour " + hour, Check.with(two + hour + ");").look(0), hour == 0 ? 2 : 4 * hour + 1);
        }
        WristPort x = Check.with(two + "6);");
        CHECK.due("hour 6 begins behind the 24th: it shows too late", x.look(0), -1);
        x.quarter();
        CHECK.due("behind the 23rd from now: it shows behind the 24th", x.look(0), 24);
        x.quarter();
        CHECK.due("behind the 23rd", x.look(0), 23);
        x.undo();
        x.undo();
        CHECK.due("too late again", x.look(0), -1);
    }

    /** "if that is less than all". */
    private static void lookIfLessThanAll() {
        WristPort x = Check.with(THREE);
        x.see(2, 0, 10);
        CHECK.due("one pair", x.pairs(0), 1);
        for (int who = 0; who < 3; who++) {
            CHECK.due("one pair: nothing to part", x.look(who), -1);
        }
        x.see(2, 0, 0);
        CHECK.due("no pair", x.pairs(0), 0);
        for (int who = 0; who < 3; who++) {
            CHECK.due("no pair", x.look(who), -1);
        }
        x = Check.with(THREE);
        x.see(0, 0, 0);
        x.see(1, 0, 10);
        CHECK.due("two pairs", x.pairs(0), 2);
        CHECK.due("all as far", x.look(0), -1);
        CHECK.due("all as far", x.look(1), -1);
        CHECK.due("one each", x.look(2), 0);
        CHECK.due("alone", Check.with("person a old beats 20;").look(0), -1);
    }

    /** "behind which the greatest number of PAIRS by which this one is as far OUT is the least". */
    private static void lookForTheLeast() {
        // At once a is at 10, 30, and four times at 0; by moods, who was asked is a minute ahead behind the second:
        // 10, 30, twice 1, twice 0.
        CHECK.due("two at most behind the second", Check.with(THREE + "moods asked * 4;").look(0), 2);
        // b: at 0, 30, four times at 10; of these two by which b was asked.
        CHECK.due("b", Check.with(THREE + "moods asked * 4;").look(1), 2);
        // On the hour all take a's time: parted at once, not later.
        CHECK.due("at once", Check.with(THREE + "asks b a;asks c a;").look(2), 0);
    }

    /** Of thirty PAIRS one alone parts them: the first one, one between, the last one. */
    private static void lookByEachOfThirty() {
        CHECK.due("a asked b: 29 and 1", Check.at(0, 10, 0, 0, 0, 0).look(0), 0);
        CHECK.due("c asked f: 29 and 1", Check.at(0, 0, 0, 0, 0, 10).look(2), 0);
        CHECK.due("f asked e: 29 and 1", Check.at(0, 0, 0, 0, 10, 0).look(5), 0);
        CHECK.due("all thirty are as far", Check.at(0, 0, 0, 0, 0, 0).look(5), -1);
        // None but these two asks: at once a is at 10 or at 0.
        CHECK.due("of two", Check.with("person a plain beats 60;person b plain beats 60;sets b 10;moods asked * 4;")
                .look(0), 0);
    }

    /** OUTS of -360 and of 359 are as far as themselves, too. */
    private static void lookAtBothEnds() {
        for (int time : new int[] {359, 360}) {
            CHECK.due("both at " + time, Check.at(time, time).look(0), -1);
            CHECK.due("all at " + time, Check.at(time, time, time, time, time, time).look(3), -1);
        }
        CHECK.due("359 or -360", Check.at(359, 360).look(0), 0);
        CHECK.due("-360 or 359", Check.at(360, 359).look(0), 0);
    }

    /** "behind so many (1 to 40) QUARTERS"; "false: others". */
    private static void toldOf1To40Quarters() {
        for (int q = -2; q <= 43; q++) {
            WristPort x = new WristPort();
            boolean fine = q >= 1 && q <= 40;
            CHECK.due("tell behind " + q, x.tell(q, 0), fine);
            CHECK.due("TOLD", x.count(8), fine ? 1 : 0);
        }
        CHECK.due("far", new WristPort().tell(Integer.MIN_VALUE, 0), false);
        CHECK.due("far", new WristPort().tell(Integer.MAX_VALUE, 0), false);
    }

    /** "so far OUT (-360 to 359)". */
    private static void toldFrom360BehindTo359() {
        int[][] due = {{-361, 0}, {-360, 1}, {-359, 1}, {0, 1}, {358, 1}, {359, 1}, {360, 0}, {720, 0}, {-720, 0},
            {Integer.MIN_VALUE, 0}, {Integer.MAX_VALUE, 0}};
        for (int[] one : due) {
            WristPort x = new WristPort();
            CHECK.due("tell " + one[0], x.tell(1, one[0]), one[1] == 1);
            CHECK.due("TOLD", x.count(8), one[1]);
        }
    }

    /** "6 at most"; "false: .. 6 there are". */
    private static void told6AtMost() {
        WristPort x = new WristPort();
        for (int i = 1; i <= 6; i++) {
            CHECK.due("tell " + i, x.tell(i, 0), true);
            CHECK.due("TOLD", x.count(8), i);
        }
        for (int i = 0; i < 3; i++) {
            CHECK.due("6 there are", x.tell(1, 1), false);
        }
        CHECK.due("six", x.count(8), 6);
        CHECK.due("the seventh does not count", x.fits(0), 4);
        x = new WristPort();
        for (int i = 1; i <= 5; i++) {
            x.tell(i, 0);
        }
        x.tell(40, 1);
        CHECK.due("the sixth counts", x.fits(0), 0);
        Check.port(x, "");
        CHECK.due("none by a new PORT", x.count(8), 0);
        CHECK.due("room again", x.tell(1, 0), true);
    }

    private static void fit(int quarters, int out, int many, int least, int greatest) {
        WristPort x = new WristPort();
        CHECK.due("tell", x.tell(quarters, out), true);
        String what = "fits of " + out + " behind " + quarters;
        CHECK.due(what + ": how many", x.fits(0), many);
        CHECK.due(what + ": the least", x.fits(1), least);
        CHECK.due(what + ": the greatest", x.fits(2), greatest);
    }

    /** "FITS: beats (20 to 160) by which all TOLD is so": from 5 to 40 minutes a QUARTER. */
    private static void fitsFrom20To160() {
        WristPort x = new WristPort();
        CHECK.due("all", x.fits(0), 141);
        CHECK.due("20", x.fits(1), 20);
        CHECK.due("160", x.fits(2), 160);
        fit(1, -10, 4, 20, 23);
        fit(1, -11, 0, -1, -1);
        fit(1, -9, 4, 24, 27);
        fit(1, 0, 4, 60, 63);
        fit(1, 24, 4, 156, 159);
        fit(1, 25, 1, 160, 160);
        fit(1, 26, 0, -1, -1);
        x.tell(1, 0);
        x.tell(2, 1);
        CHECK.due("not both", x.fits(0), 0);
        CHECK.due("none", x.fits(1), -1);
        CHECK.due("none", x.fits(2), -1);
    }

    /** OUT goes round the twelve hours: 40 QUARTERS of 40 minutes are 1,000 ahead. */
    private static void fitsRoundTheTwelveHours() {
        // 1,000 ahead is 280; 22 a QUARTER: 7 * 40 is 280, too.
        fit(40, 280, 5, 88, 160);
        // 5 a QUARTER: 400 behind is 320 ahead; 23 a QUARTER: 8 * 40 is 320, too.
        fit(40, 320, 8, 20, 95);
        // 6 a QUARTER: 360 behind; 24 a QUARTER: 360 ahead: both are -360.
        fit(40, -360, 8, 24, 99);
        // 360 behind by 36: 5 a QUARTER, and 25 a QUARTER: 10 * 36.
        fit(36, -360, 8, 20, 103);
        fit(40, 0, 8, 60, 135);
        fit(40, 1, 0, -1, -1);
        fit(40, 359, 0, -1, -1);
        // 15 behind 39 QUARTERS: 585; no other one.
        fit(39, -135, 4, 120, 123);
    }

    /** "NONE: others, none (but 0)". */
    private static void fitsWhat() {
        WristPort x = new WristPort();
        for (int what : NO_WHAT) {
            CHECK.due("what " + what, x.fits(what), -1);
        }
        x.tell(1, 100);
        CHECK.due("none: 0", x.fits(0), 0);
        CHECK.due("none", x.fits(1), -1);
        CHECK.due("none", x.fits(2), -1);
        for (int what : NO_WHAT) {
            CHECK.due("what " + what, x.fits(what), -1);
        }
        // The one who is unknown is none of the PORT: QUARTERS that pass, beats and moods are nothing to them.
        x = Check.with("person a child beats 160;sets a 99;moods 20;");
        x.tell(3, 3);
        x.quarter();
        x.quarter();
        CHECK.due("a minute a QUARTER", x.fits(0), 4);
        CHECK.due("64", x.fits(1), 64);
        CHECK.due("67", x.fits(2), 67);
    }

    /** "WHEN; NONE: none parts them"; "if that is less than all". */
    private static void whenPartsThem() {
        WristPort x = new WristPort();
        CHECK.due("all: four at most are as far", x.when(), 1);
        x.tell(40, -360);
        CHECK.due("eight: four and four", x.when(), 1);
        x.tell(1, -9);
        CHECK.due("four that go on alike", x.when(), -1);
        x.tell(1, 9);
        CHECK.due("none", x.when(), -1);
        x = new WristPort();
        x.tell(1, 25);
        CHECK.due("one alone", x.when(), -1);
        x = new WristPort();
        x.tell(36, 180);
        // 5 * 36 is 180: 20 a QUARTER; 25 * 36 is 900, 180: 40 a QUARTER, by 160 beats alone.
        CHECK.due("five", x.fits(0), 5);
        CHECK.due("four and one", x.when(), 1);
    }
}
