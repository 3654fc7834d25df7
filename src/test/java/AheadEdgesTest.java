/** Edges of what is to come: section 3, promises 12 to 22. */
public final class AheadEdgesTest {
    private static final Check CHECK = new Check("AheadEdgesTest");
    private static final int[] NOBODY = {-1, 2, 6, Integer.MIN_VALUE, Integer.MAX_VALUE};
    private static final int[] FAR = {Integer.MIN_VALUE, -1000, Integer.MAX_VALUE};

    public static void main(String[] args) {
        later0To96();
        worst();
        middleAtHalf();
        noon1To96();
        noonTo0OrPastIt();
        noonByNoAsk();
        firstOfEqualOnes();
        meet0To96();
        orderedFrom0();
        roundWhat();
        roundOfNoOthers();
        roundOfEqualOnes();
        roundAheadOfTheQuarter();
        askings0To60();
        askingsFewestThenLeast();
        train1To96();
        trainBehindTrueTime();
        missedBits();
        CHECK.end();
    }

    /** One plain, of so many beats, at this time. */
    private static WristPort one(int beats, int time) {
        return Check.with("person a plain beats " + beats + ";sets a " + time + ";");
    }

    /** "LATER: .. behind so many (0 to 96) QUARTERS"; "-1000: others". */
    private static void later0To96() {
        WristPort x = Check.with("person a plain beats 64;person b plain beats 56;sets b 360;");
        for (int q = 0; q <= 96; q++) {
            CHECK.due("a behind " + q, x.later(0, q), q);
            CHECK.due("b behind " + q, x.later(1, q), q == 0 ? -360 : 360 - q);
        }
        for (int q : new int[] {-1, 97, Integer.MIN_VALUE, Integer.MAX_VALUE}) {
            CHECK.due("quarters " + q, x.later(0, q), -1000);
        }
        for (int who : NOBODY) {
            CHECK.due("later of " + who, x.later(who, 0), -1000);
        }
        CHECK.due("nobody", new WristPort().later(0, 0), -1000);
    }

    /** "WORST: who is the farthest OUT, without its sign; of equal ones the first"; "NONE: nobody". */
    private static void worst() {
        CHECK.due("nobody", new WristPort().worst(), -1);
        CHECK.due("alone and right", Check.at(0).worst(), 0);
        CHECK.due("all are right", Check.at(0, 0, 0).worst(), 0);
        CHECK.due("20 and -20", Check.at(0, 20, 700).worst(), 1);
        CHECK.due("-20 and 20", Check.at(0, 700, 20).worst(), 1);
        CHECK.due("-20 and 19", Check.at(19, 700).worst(), 1);
        CHECK.due("359 and -360", Check.at(359, 360).worst(), 1);
        CHECK.due("359 and -359", Check.at(359, 361).worst(), 0);
        CHECK.due("the last of six", Check.at(1, 1, 1, 1, 1, 2).worst(), 5);
    }

    /** "all OUTS, the least first, of these the one at half of how many, cut (from 0)"; "-1000: nobody". */
    private static void middleAtHalf() {
        CHECK.due("nobody", new WristPort().middle(), -1000);
        CHECK.due("of one", Check.at(715).middle(), -5);
        CHECK.due("of two", Check.at(30, 10).middle(), 30);
        CHECK.due("of three", Check.at(30, 10, 20).middle(), 20);
        CHECK.due("of four", Check.at(30, 10, 40, 20).middle(), 30);
        CHECK.due("of five", Check.at(50, 30, 10, 40, 20).middle(), 30);
        CHECK.due("of six", Check.at(50, 30, 10, 40, 20, 60).middle(), 40);
        CHECK.due("of equal ones", Check.at(7, 7, 7, 1).middle(), 7);
        CHECK.due("-360 is the least", Check.at(360, 359).middle(), 359);
        CHECK.due("-360 and -360", Check.at(360, 360).middle(), -360);
        CHECK.due("less than 0", Check.at(719, 718, 717).middle(), -2);
    }

    /** "NOON: by which of the QUARTERS to come (1 to 96)"; "NONE: others, not by 96". */
    private static void noon1To96() {
        CHECK.due("by the first", one(60, 705).noon(0), 1);
        CHECK.due("by the second", one(60, 704).noon(0), 2);
        // 7 a QUARTER: 96 of them are 672.
        CHECK.due("by the 95th", one(28, 55).noon(0), 95);
        CHECK.due("by the 96th", one(28, 48).noon(0), 96);
        CHECK.due("not by the 96th", one(28, 47).noon(0), -1);
        CHECK.due("whose noon is the first", one(28, 48).first(), 0);
        CHECK.due("whose noon is none", one(28, 47).first(), -1);
        CHECK.due("the slowest", Check.with("person a old beats 20;").noon(0), -1);
        for (int who : NOBODY) {
            CHECK.due("noon of " + who, Check.at(0, 0).noon(who), -1);
        }
        CHECK.due("nobody", new WristPort().noon(0), -1);
        WristPort x = one(60, 705);
        x.quarter();
        CHECK.due("the next one, from now", x.noon(0), 48);
    }

    /** "a PERSON's time goes on to 0 again, or past it". */
    private static void noonTo0OrPastIt() {
        CHECK.due("to 719", one(60, 704).noon(0), 2);
        CHECK.due("to 0", one(60, 705).noon(0), 1);
        CHECK.due("past it", one(60, 719).noon(0), 1);
        CHECK.due("at 0 now is not yet again", one(60, 0).noon(0), 48);
        CHECK.due("the quickest: 42 a QUARTER, 18 times: 756", Check.with("person a child beats 160;").noon(0), 18);
        CHECK.due("40 a QUARTER: 18 times: 720", one(160, 0).noon(0), 18);
        CHECK.due("an old one of 20: 3 a QUARTER", Check.with("person a old beats 20;sets a 717;").noon(0), 1);
        CHECK.due("an old one of 20", Check.with("person a old beats 20;sets a 716;").noon(0), 2);
    }

    /** "(by no ASK)". */
    private static void noonByNoAsk() {
        // b goes on 5 a QUARTER from 700: 720 by the fourth; a, at 600, takes b's 0 on the hour.
        String two = "person a plain beats 20;person b plain beats 20;sets a 600;sets b 700;";
        WristPort x = Check.with(two + "asks a b;");
        CHECK.due("b's", x.noon(1), 4);
        CHECK.due("a's comes by asking: none", x.noon(0), -1);
        CHECK.due("without asking", Check.with(two).noon(0), 24);
        // a passes 0 by itself in the very QUARTER in which it asks one who has not.
        x = Check.with("person a plain beats 20;person b plain beats 20;sets a 700;sets b 600;asks a b;");
        CHECK.due("720 by the fourth, then 620", x.noon(0), 4);
        CHECK.due("b's: 600 and 24 times 5", x.noon(1), 24);
    }

    /** "FIRST: whose NOON is the soonest; of equal ones the first"; "NONE: none". */
    private static void firstOfEqualOnes() {
        CHECK.due("nobody", new WristPort().first(), -1);
        CHECK.due("equal ones", Check.at(0, 705, 706).first(), 1);
        CHECK.due("the sooner one", Check.at(0, 690, 706).first(), 2);
        CHECK.due("the last of six", Check.at(1, 1, 1, 1, 1, 710).first(), 5);
        CHECK.due("all at once", Check.at(5, 5, 5, 5, 5, 5).first(), 0);
    }

    /** "MEET of two: behind how many (0 to 96) their times are the same"; "NONE: others, the same, not by 96". */
    private static void meet0To96() {
        String two = "person a plain beats 60;person b plain beats 64;sets a ";
        for (int far : new int[] {0, 1, 95, 96}) {
            CHECK.due("behind " + far, Check.with(two + far + ";").meet(0, 1), far);
            CHECK.due("the other way", Check.with(two + far + ";").meet(1, 0), far);
        }
        CHECK.due("behind 97", Check.with(two + "97;").meet(0, 1), -1);
        CHECK.due("never", Check.at(0, 1).meet(0, 1), -1);
        CHECK.due("round the twelve hours", Check.with("person a plain beats 60;person b plain beats 64;"
                + "sets a 40;sets b 670;").meet(0, 1), 90);
        WristPort x = Check.at(0, 0);
        CHECK.due("the same", x.meet(0, 0), -1);
        CHECK.due("the same", x.meet(1, 1), -1);
        for (int who : NOBODY) {
            CHECK.due("meet of " + who, x.meet(who, 0), -1);
            CHECK.due("meet of " + who, x.meet(0, who), -1);
            CHECK.due("meet of " + who, x.meet(who, who), -1);
        }
        CHECK.due("nobody", new WristPort().meet(0, 1), -1);
    }

    /** "ORDERED: the i-th (from 0); NONE: none"; "of equal ones the first ahead". */
    private static void orderedFrom0() {
        int[][] times = {{0}, {5, 5}, {719, 1, 0}, {359, 360, 0, 361}, {3, 1, 3, 1, 3}, {1, 2, 3, 4, 5, 6}};
        int[][] due = {{0}, {0, 1}, {1, 2, 0}, {0, 2, 3, 1}, {0, 2, 4, 1, 3}, {5, 4, 3, 2, 1, 0}};
        for (int k = 0; k < times.length; k++) {
            WristPort x = Check.at(times[k]);
            for (int i = 0; i < due[k].length; i++) {
                CHECK.due("ordered " + k + " " + i, x.ordered(i), due[k][i]);
            }
            CHECK.due("no such", x.ordered(due[k].length), -1);
            CHECK.due("no such", x.ordered(-1), -1);
            for (int i : FAR) {
                CHECK.due("no such", x.ordered(i), -1);
            }
        }
        CHECK.due("nobody", new WristPort().ordered(0), -1);
    }

    /** "what NONE: how much; i: the i-th who asks; -2: others, no i-th one". */
    private static void roundWhat() {
        WristPort x = Check.at(0, 10, 20);
        CHECK.due("how much", x.round(0, -1), 0);
        CHECK.due("the first", x.round(0, 0), 1);
        CHECK.due("the second", x.round(0, 1), 2);
        for (int what : new int[] {-2, 2, 3, Integer.MIN_VALUE, Integer.MAX_VALUE}) {
            CHECK.due("what " + what, x.round(0, what), -2);
        }
        for (int who : new int[] {-1, 3, 6, Integer.MIN_VALUE, Integer.MAX_VALUE}) {
            for (int what = -1; what <= 1; what++) {
                CHECK.due("round of " + who, x.round(who, what), -2);
            }
        }
        for (int what = -2; what <= 0; what++) {
            CHECK.due("nobody", new WristPort().round(0, what), -2);
        }
    }

    /** "(now, if there are no others)". */
    private static void roundOfNoOthers() {
        for (int time : new int[] {0, 1, 359, 360, 719}) {
            WristPort x = one(160, time);
            CHECK.due("now", x.round(0, -1), Math.min(time, 720 - time));
            CHECK.due("none asks", x.round(0, 0), -2);
            CHECK.due("none asks", x.round(0, -2), -2);
        }
    }

    /** "of equal ones the first row (by numbers)". */
    private static void roundOfEqualOnes() {
        int[][] due = {{1, 2, 3, 4, 5, -2}, {0, 2, 3, 4, 5, -2}, {0, 1, 3, 4, 5, -2}, {0, 1, 2, 4, 5, -2},
            {0, 1, 2, 3, 5, -2}, {0, 1, 2, 3, 4, -2}};
        WristPort x = Check.at(0, 0, 0, 0, 0, 0);
        for (int who = 0; who < 6; who++) {
            for (int i = 0; i < 6; i++) {
                CHECK.due("round of " + who + " " + i, x.round(who, i), due[who][i]);
            }
            CHECK.due("how much", x.round(who, -1), 0);
        }
        // b and d go on alike, c is quicker: c last, b ahead of d.
        x = Check.with("person a plain beats 60;person b plain beats 64;person c plain beats 80;person d plain beats 64;");
        int[] row = {1, 3, 2, -2};
        for (int i = 0; i < 4; i++) {
            CHECK.due("row " + i, x.round(0, i), row[i]);
        }
        CHECK.due("b 3, d 2, c 5", x.round(0, -1), 10);
    }

    /** "all others ASK that one, one a QUARTER, ahead of it, .. the least behind the last". */
    private static void roundAheadOfTheQuarter() {
        // b asks, then the QUARTER: b is a minute ahead behind it.
        WristPort x = Check.with("person a plain beats 60;person b plain beats 64;sets b 300;");
        CHECK.due("behind the QUARTER", x.round(0, -1), 1);
        // a, 10 ahead, goes 1 less a QUARTER: 9 behind it; b takes 10, goes 4 more.
        x = Check.with("person a plain beats 56;person b plain beats 76;sets a 10;");
        CHECK.due("9 and 14", x.round(0, -1), 23);
        // On the fourth QUARTER the hour comes: all but a ask b, a goes by herself.
        x = Check.with("person a plain beats 60;person b plain beats 64;person c plain beats 60;person d plain beats 60;"
                + "person e plain beats 60;asks c b;asks d b;asks e b;");
        // b asks at last: 1 ahead for one QUARTER; so c, d, e take that 1 on the hour.
        CHECK.due("1 each", x.round(0, -1), 4);
        int[] row = {2, 3, 4, 1};
        for (int i = 0; i < 4; i++) {
            CHECK.due("b at last " + i, x.round(0, i), row[i]);
        }
        CHECK.due("nothing is done", x.count(1) + x.count(4) + x.count(9), 0);
    }

    /** "ASKINGS for so many minutes (0 to 60)"; "NONE: others"; just so far apart is near enough. */
    private static void askings0To60() {
        for (int minutes = 0; minutes <= 60; minutes++) {
            CHECK.due("just so far", Check.at(0, minutes).askings(minutes), 0);
            CHECK.due("a minute more", Check.at(0, minutes + 1).askings(minutes), 1);
            CHECK.due("behind, too", Check.at(minutes + 1, 0).askings(minutes), 1);
        }
        for (int minutes : new int[] {-1, 61, Integer.MIN_VALUE, Integer.MAX_VALUE}) {
            CHECK.due("minutes " + minutes, Check.at(0, 0).askings(minutes), -1);
            CHECK.due("minutes " + minutes, new WristPort().askings(minutes), -1);
        }
        CHECK.due("nobody", new WristPort().askings(0), 0);
        CHECK.due("nobody", new WristPort().askings(60), 0);
        CHECK.due("alone", Check.at(360).askings(0), 0);
        // 700 and 20 are 40 apart round the hours: OUTS -20 and 20.
        CHECK.due("past 0", Check.at(700, 20).askings(40), 0);
        CHECK.due("past 0", Check.at(700, 20).askings(39), 1);
        // OUTS 359 and -360 are 719 apart.
        CHECK.due("the farthest", Check.at(359, 360).askings(60), 1);
    }

    /** "the fewest ASKS ..; of equal ones the least set of who must ask (bits)". */
    private static void askingsFewestThenLeast() {
        CHECK.due("all must but one", Check.at(0, 100, 200, 300).askings(60), 7);
        CHECK.due("the pair stays: the others are 12", Check.at(0, 10, 100, 200).askings(10), 12);
        CHECK.due("the pair stays: the others are 3", Check.at(100, 200, 0, 10).askings(10), 3);
        CHECK.due("two pairs: the least set", Check.at(0, 5, 100, 105).askings(5), 3);
        CHECK.due("two pairs, crossed", Check.at(0, 100, 5, 105).askings(5), 5);
        CHECK.due("three stay", Check.at(0, 100, 2, 105, 4, 110).askings(4), 42);
        CHECK.due("two threes: the least set", Check.at(0, 100, 2, 102, 4, 104).askings(4), 21);
        CHECK.due("six, none near", Check.at(0, 61, 122, 183, 244, 305).askings(60), 31);
        CHECK.due("six, all near", Check.at(0, 12, 24, 36, 48, 60).askings(60), 0);
        CHECK.due("the first alone is far", Check.at(61, 0, 0, 0, 0, 0).askings(60), 1);
        CHECK.due("the last alone is far", Check.at(0, 0, 0, 0, 0, 61).askings(60), 32);
        // 0 to 60 or 1 to 61: either end may ask; the first has the lower bit.
        CHECK.due("either end", Check.at(0, 30, 61).askings(60), 1);
        CHECK.due("either end", Check.at(61, 30, 0).askings(60), 1);
    }

    /** "one that leaves in so many (1 to 96) QUARTERS"; "NONE: others". */
    private static void train1To96() {
        WristPort x = Check.with("person a plain beats 56;person b plain beats 64;");
        for (int q = 1; q <= 96; q++) {
            CHECK.due("a in " + q, x.train(0, q), q);
            CHECK.due("b in " + q, x.train(1, q), 0);
            CHECK.due("missed in " + q, x.missed(q), 1);
        }
        for (int q : new int[] {-1, 0, 97, Integer.MIN_VALUE, Integer.MAX_VALUE}) {
            CHECK.due("train in " + q, x.train(0, q), -1);
            CHECK.due("missed in " + q, x.missed(q), -1);
            CHECK.due("missed by nobody in " + q, new WristPort().missed(q), -1);
        }
        for (int who : NOBODY) {
            CHECK.due("train of " + who, x.train(who, 1), -1);
        }
        CHECK.due("nobody", new WristPort().train(0, 1), -1);
        CHECK.due("nobody", new WristPort().missed(1), 0);
        CHECK.due("nobody", new WristPort().missed(96), 0);
    }

    /** "so far that time is behind true time then (0: it is not)". */
    private static void trainBehindTrueTime() {
        int[][] due = {{0, 0}, {1, 0}, {359, 0}, {360, 360}, {361, 359}, {719, 1}};
        for (int[] one : due) {
            CHECK.due("at " + one[0], Check.at(one[0]).train(0, 1), one[1]);
            CHECK.due("at " + one[0], Check.at(one[0]).missed(1), one[1] > 0 ? 1 : 0);
        }
        // 2 ahead, a minute less a QUARTER: right behind the second, late behind the third.
        int[] late = {0, 0, 1};
        for (int q = 1; q <= 3; q++) {
            CHECK.due("in " + q, one(56, 2).train(0, q), late[q - 1]);
            CHECK.due("in " + q, one(56, 2).missed(q), late[q - 1]);
        }
        // From 360 behind, and later still, it is 359 ahead.
        CHECK.due("in time by the other end", one(56, 360).train(0, 1), 0);
        // Behind now, but set right on the hour, in time for that train.
        WristPort x = Check.with("person a plain beats 60;person b plain beats 60;sets a 700;asks a b;");
        CHECK.due("ahead of the hour", x.train(0, 3), 20);
        CHECK.due("on the hour", x.train(0, 4), 0);
    }

    /** "MISSED: who comes too late to it (bits)". */
    private static void missedBits() {
        CHECK.due("none", Check.at(0, 1, 2, 3, 4, 5).missed(96), 0);
        CHECK.due("all", Check.at(719, 718, 717, 716, 715, 360).missed(96), 63);
        CHECK.due("the first", Check.at(719, 0).missed(1), 1);
        CHECK.due("the last", Check.at(0, 0, 0, 0, 0, 719).missed(1), 32);
        CHECK.due("every other one", Check.at(0, 719, 0, 719, 0, 719).missed(1), 42);
    }
}
