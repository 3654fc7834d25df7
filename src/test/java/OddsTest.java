import java.util.NoSuchElementException;

/** Promises 42 to 44: chance, rests, years. */
public final class OddsTest {
    private static final Check CHECK = new Check("OddsTest");
    private static final int THROWS = -99;

    public static void main(String[] args) {
        chances();
        rests();
        years();
        CHECK.end();
    }

    private static void chances() {
        WristPort x = Check.with("person a plain beats 60;");
        // A FRIGHT ahead of the first of two: 5 and 5; ahead of the second: 5; both: 5 and 10.
        CHECK.due("one or more", x.chance(0, 5, 2, 3), 510000);
        CHECK.due("the first", x.chance(0, 6, 2, 3), 300000);
        CHECK.due("both", x.chance(0, 11, 2, 3), 90000);
        CHECK.due("15 is enough", x.chance(0, 15, 2, 3), 90000);
        CHECK.due("not 16", x.chance(0, 16, 2, 3), 0);
        CHECK.due("never", x.chance(0, 1, 6, 0), 0);
        CHECK.due("always", x.chance(0, 1, 6, 10), 1000000);
        // None of six by odds of 9: a millionth.
        CHECK.due("a millionth", x.chance(0, 1, 6, 9), 999999);
        // 60 to 160 by five: 5, 10, 15, 20, 25, 25: 100 in all by all six.
        CHECK.due("60 minutes", x.chance(0, 60, 6, 10), 1000000);
        x.fright(0, 60);
        x.fright(0, 40);
        CHECK.due("160 at most: 25 a QUARTER", x.chance(0, 26, 1, 10), 0);
        CHECK.due("160 at most: 25 a QUARTER", x.chance(0, 25, 1, 10), 1000000);
        CHECK.due("nothing is done", x.person(0, 1), 160);
        int[][] bad = {{1, 5, 1, 5}, {-1, 5, 1, 5}, {0, 0, 1, 5}, {0, 61, 1, 5}, {0, 5, 0, 5}, {0, 5, 7, 5},
            {0, 5, 1, -1}, {0, 5, 1, 11}};
        for (int[] b : bad) {
            CHECK.due("others", x.chance(b[0], b[1], b[2], b[3]), -1);
        }
        x = Check.with("person a plain beats 40;");
        CHECK.due("behind is OUT too", x.chance(0, 5, 1, 4), 600000);
    }

    private static int rest(int both, int loses, int gets, int what) {
        try {
            return new WristPort().rests(both, loses, gets, what);
        } catch (NoSuchElementException e) {
            return THROWS;
        }
    }

    private static void rests() {
        CHECK.due("own or both", rest(5, 2, 3, -1), 2);
        CHECK.due("own", rest(5, 2, 3, 0), 0);
        CHECK.due("both", rest(5, 2, 3, 1), 3);
        CHECK.due("no third", rest(5, 2, 3, 2), THROWS);
        CHECK.due("own alone", rest(3, 2, 5, -1), 1);
        CHECK.due("own", rest(3, 2, 5, 0), 0);
        CHECK.due("no second", rest(3, 2, 5, 1), THROWS);
        // One asks, loses nothing; the other one gets as much as by asking: all four.
        CHECK.due("all", rest(4, 0, 4, -1), 4);
        for (int i = 0; i < 4; i++) {
            CHECK.due("all " + i, rest(4, 0, 4, i), i);
        }
        CHECK.due("no fifth", rest(4, 0, 4, 4), THROWS);
        // Nothing lost, more got by going: own, and one asks.
        CHECK.due("three", rest(3, 0, 4, -1), 3);
        CHECK.due("the last", rest(3, 0, 4, 2), 2);
        CHECK.due("other what", rest(5, 2, 3, -2), THROWS);
        for (int bad : new int[] {-1, 10}) {
            CHECK.due("others", rest(bad, 2, 3, -1), THROWS);
            CHECK.due("others", rest(5, bad, 3, -1), THROWS);
            CHECK.due("others", rest(5, 2, bad, -1), THROWS);
        }
        CHECK.due("edge", rest(9, 9, 9, -1), 2);
        CHECK.due("edge", rest(0, 0, 0, -1), 4);
    }

    private static void years() {
        WristPort x = new WristPort();
        CHECK.due("nobody", x.years(1, 99, 0), 0);
        CHECK.due("nobody", x.years(1, 99, 1), 0);
        CHECK.due("nobody", x.years(1, 99, 2), 0);
        // From 0: g is 12345, 1406932606, 654583775, ...; by 65536: 0, 21468, 9988, 22117, 3498.
        // The first QUARTER: 0 below 5: that ASK; 21468 and 9988 below 2: 0 asks 0: nothing.
        x = Check.with("person a plain beats 60; person b plain beats 64; sets b 100;");
        CHECK.due("not the same ones", x.years(0, 1, 0), 0);
        CHECK.due("the worst", x.years(0, 1, 1), 101);
        CHECK.due("beats", x.years(0, 1, 2), 124);
        // The second one: 22117 below 5: 2: 3498 below 2: 0 is soothed by 16927 below 30 and 1: 8.
        CHECK.due("soothed", x.years(0, 2, 2), 116);
        CHECK.due("b", x.years(0, 2, 1), 102);
        // From 6: 2726 below 5 is 1: 25515 below 2, 1, has a FRIGHT by 10742 below 30 and 1: 3.
        CHECK.due("frightened", x.years(6, 1, 2), 127);
        // From 5: 18655 below 5 is 0: 8457 below 2, 1, asks 10616 below 2, 0.
        CHECK.due("b asks a", x.years(5, 1, 0), 1);
        CHECK.due("b is at 1", x.years(5, 1, 1), 1);
        // From 1: 16838 below 5 is 3: nothing; the next is 5758 below 5: 3, then 10113: 3.
        CHECK.due("nothing", x.years(1, 3, 2), 124);
        CHECK.due("but QUARTERS", x.years(1, 3, 1), 103);
        // By three: 21468 below 3 is 0, 9988 below 3 is 1: a asks b.
        x = Check.with("person a plain beats 60; person b plain beats 64; person c plain beats 60; sets b 100;");
        CHECK.due("a asks b", x.years(0, 1, 0), 1);
        CHECK.due("b was", x.count(4), 0);
        x = Check.with("person a plain beats 60; person b plain beats 60; asks a b;");
        x.ask(0, 1);
        CHECK.due("in these alone", x.years(4, 1, 0), 0);
        CHECK.due("all is as ahead", x.count(1), 0);
        CHECK.due("all is as ahead", x.count(9), 1);
        CHECK.due("edge", x.years(9999, 99, 0) >= 24, true);
        int[][] bad = {{-1, 1, 0}, {10000, 1, 0}, {0, 0, 0}, {0, 100, 0}, {0, 1, 3}, {0, 1, -1}};
        for (int[] b : bad) {
            CHECK.due("others", x.years(b[0], b[1], b[2]), -1);
        }
    }
}
