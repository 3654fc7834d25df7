import java.math.BigInteger;
import java.util.NoSuchElementException;

/** Edges of CHANCE, RESTS and YEARS: section 3, promises 42 to 44. */
public final class OddsEdgesTest {
    private static final Check CHECK = new Check("OddsEdgesTest");
    private static final int THROWS = -99;
    private static final int[] FAR = {Integer.MIN_VALUE, -1000, Integer.MAX_VALUE};

    public static void main(String[] args) {
        chanceOfMinutes1To60();
        chanceOfQuarters1To6();
        chanceByOdds0To10();
        chanceOfAPerson();
        chanceFrightsAheadOfEach();
        rests0To9();
        restsWhat();
        yearsSeed0To9999();
        yearsQuarters1To99();
        yearsWhat();
        yearsIfThereArePersons();
        yearsOfOne();
        yearsOfSix();
        yearsLeaveAll();
        CHECK.end();
    }

    /** One who is so far OUT and, without a FRIGHT, stays so. */
    private static WristPort out(int out) {
        return Check.with("person a plain beats 60;sets a " + (out + 720) % 720 + ";");
    }

    /** "so many minutes (1 to 60) OUT, or more, without its sign". */
    private static void chanceOfMinutes1To60() {
        for (int minutes = 1; minutes <= 60; minutes++) {
            CHECK.due("just so far", out(minutes).chance(0, minutes, 1, 0), 1000000);
            CHECK.due("or more", out(minutes + 1).chance(0, minutes, 1, 0), 1000000);
            CHECK.due("a minute less", out(minutes - 1).chance(0, minutes, 1, 0), 0);
            CHECK.due("behind", out(-minutes).chance(0, minutes, 1, 0), 1000000);
            CHECK.due("behind, a minute less", out(1 - minutes).chance(0, minutes, 1, 0), 0);
        }
        CHECK.due("the farthest", out(-360).chance(0, 60, 1, 0), 1000000);
        for (int minutes : new int[] {-1, 0, 61, Integer.MIN_VALUE, Integer.MAX_VALUE}) {
            CHECK.due("minutes " + minutes, out(60).chance(0, minutes, 1, 5), -1);
        }
    }

    /** "ahead of each of so many (1 to 6) QUARTERS". */
    private static void chanceOfQuarters1To6() {
        // By odds of 5: that there is one FRIGHT at the least, so 5 minutes or more.
        int[] due = {500000, 750000, 875000, 937500, 968750, 984375};
        for (int q = 1; q <= 6; q++) {
            CHECK.due("quarters " + q, out(0).chance(0, 5, q, 5), due[q - 1]);
        }
        for (int q : new int[] {-1, 0, 7, 32, 33, Integer.MIN_VALUE, Integer.MAX_VALUE}) {
            CHECK.due("quarters " + q, out(0).chance(0, 5, q, 5), -1);
        }
    }

    /** "by odds of ten"; "by odds (0 to 10)". */
    private static void chanceByOdds0To10() {
        for (int odds = 0; odds <= 10; odds++) {
            CHECK.due("once by " + odds, out(0).chance(0, 5, 1, odds), odds * 100000);
            int none = (10 - odds) * (10 - odds) * (10 - odds) * (10 - odds) * (10 - odds) * (10 - odds);
            CHECK.due("of six by " + odds, out(0).chance(0, 5, 6, odds), 1000000 - none);
            CHECK.due("60 minutes of six by " + odds, out(0).chance(0, 60, 6, odds), hourOf6(odds));
        }
        for (int odds : new int[] {-1, 11, Integer.MIN_VALUE, Integer.MAX_VALUE}) {
            CHECK.due("odds " + odds, out(0).chance(0, 5, 1, odds), -1);
        }
    }

    /** A FRIGHT ahead of the i-th of six (from 0) is 5 minutes more in 6 - i of them; the sixth FRIGHT is none. */
    private static int hourOf6(int odds) {
        int millionths = 0;
        for (int frights = 0; frights < 64; frights++) {
            int minutes = frights == 63 ? -5 : 0;
            int weight = 1;
            for (int i = 0; i < 6; i++) {
                boolean is = (frights & 1 << i) != 0;
                minutes += is ? 5 * (6 - i) : 0;
                weight *= is ? odds : 10 - odds;
            }
            millionths += minutes >= 60 ? weight : 0;
        }
        return millionths;
    }

    /** "NONE: others": nobody of that number. */
    private static void chanceOfAPerson() {
        for (int who : new int[] {-1, 1, 6, Integer.MIN_VALUE, Integer.MAX_VALUE}) {
            CHECK.due("chance of " + who, out(0).chance(who, 1, 1, 5), -1);
        }
        CHECK.due("nobody", new WristPort().chance(0, 1, 1, 5), -1);
        CHECK.due("the second", Check.at(0, 7).chance(1, 7, 1, 0), 1000000);
    }

    /** "a FRIGHT of 20": 160 at most, ahead of the QUARTER, for this PERSON alone, and moods behind it. */
    private static void chanceFrightsAheadOfEach() {
        WristPort x = Check.with("person a plain beats 140;person b plain beats 60;");
        CHECK.due("140 and 20 is 160: 25", x.chance(0, 25, 1, 10), 1000000);
        CHECK.due("not 26", x.chance(0, 26, 1, 10), 0);
        CHECK.due("twice: 50", x.chance(0, 50, 2, 10), 1000000);
        CHECK.due("twice: not 51", x.chance(0, 51, 2, 10), 0);
        CHECK.due("without: 20", x.chance(0, 21, 1, 0), 0);
        WristPort cut = Check.with("person a plain beats 63;");
        CHECK.due("63 and 20 is 83: 5", cut.chance(0, 5, 1, 10), 1000000);
        CHECK.due("63 and 20 is not 84", cut.chance(0, 6, 1, 10), 0);
        CHECK.due("b is not frightened then", x.chance(1, 6, 1, 10), 0);
        CHECK.due("b's own", x.chance(1, 5, 1, 10), 1000000);
        x = Check.with("person a calm beats 60;moods 0 - 20;");
        CHECK.due("a calm one is frightened, too", x.chance(0, 15, 2, 10), 1000000);
        x = Check.with("person a plain beats 60;moods 0 - 20;");
        CHECK.due("moods soothe: 5 each", x.chance(0, 10, 2, 10), 1000000);
        CHECK.due("moods soothe: not 11", x.chance(0, 11, 2, 10), 0);
        // On the hour a asks b: right again, by whatever frights.
        x = Check.with("person a plain beats 60;person b plain beats 60;asks a b;");
        CHECK.due("ahead of the hour", x.chance(0, 1, 3, 10), 1000000);
        CHECK.due("on the hour", x.chance(0, 1, 4, 10), 0);
        CHECK.due("nothing is done", x.count(3) + x.count(9), 120);
    }

    private static int rest(int both, int loses, int gets, int what) {
        try {
            return new WristPort().rests(both, loses, gets, what);
        } catch (NoSuchElementException e) {
            return THROWS;
        }
    }

    /** "so much (0 to 9)": all there are. Both going rests always; both asking if it gets as much as going then;
     * one asking if nothing is lost, and the other one would get no more by asking, too. */
    private static void rests0To9() {
        for (int both = -1; both <= 10; both++) {
            for (int loses = -1; loses <= 10; loses++) {
                for (int gets = -1; gets <= 10; gets++) {
                    restsOf(both, loses, gets);
                }
            }
        }
        for (int far : FAR) {
            CHECK.due("both " + far, rest(far, 0, 0, -1), THROWS);
            CHECK.due("loses " + far, rest(0, far, 0, -1), THROWS);
            CHECK.due("gets " + far, rest(0, 0, far, -1), THROWS);
        }
    }

    private static void restsOf(int both, int loses, int gets) {
        String call = "rests " + both + " " + loses + " " + gets;
        if (Math.min(both, Math.min(loses, gets)) < 0 || Math.max(both, Math.max(loses, gets)) > 9) {
            CHECK.due(call, rest(both, loses, gets, -1), THROWS);
            CHECK.due(call, rest(both, loses, gets, 0), THROWS);
            return;
        }
        boolean[] rest = {true, loses == 0 && gets >= both, loses == 0 && gets >= both, both >= gets};
        int many = 0;
        for (int choices = 0; choices < 4; choices++) {
            if (rest[choices]) {
                CHECK.due(call + " the " + many, rest(both, loses, gets, many), choices);
                many++;
            }
        }
        CHECK.due(call + " how many", rest(both, loses, gets, -1), many);
        CHECK.due(call + " no more", rest(both, loses, gets, many), THROWS);
    }

    /** "NoSuchElementException: others, none such". */
    private static void restsWhat() {
        for (int what : new int[] {-2, 4, 5, Integer.MIN_VALUE, Integer.MAX_VALUE}) {
            CHECK.due("what " + what, rest(0, 0, 0, what), THROWS);
        }
        for (int what = 0; what < 4; what++) {
            CHECK.due("what " + what, rest(0, 0, 0, what), what);
        }
        CHECK.due("with PERSONS it is the same", Check.at(1, 2).rests(9, 9, 9, 1), 3);
    }

    /** "a SEED (0 to 9999)"; "NONE: others". */
    private static void yearsSeed0To9999() {
        // From 0 the first DRAW is 0: an ASK of 21468 below 2, 0, and 9988 below 2, 0: the same.
        CHECK.due("0", Check.at(0, 100).years(0, 1, 2), 120);
        CHECK.due("9999", Check.at(0, 100).years(9999, 1, 2) >= 40, true);
        for (int seed : new int[] {-1, 10000, Integer.MIN_VALUE, Integer.MAX_VALUE}) {
            for (int what = 0; what < 3; what++) {
                CHECK.due("seed " + seed, Check.at(0, 100).years(seed, 1, what), -1);
                CHECK.due("nobody, seed " + seed, new WristPort().years(seed, 1, what), -1);
            }
        }
    }

    /** "so many QUARTERS (1 to 99)". */
    private static void yearsQuarters1To99() {
        // A ring of two, asked on the hour: 24 hours in 99 QUARTERS, twice each; one alone draws no ASK.
        WristPort x = Check.with("person a plain beats 60;person b plain beats 60;asks a b;asks b a;");
        CHECK.due("99: 48 on the hour at the least", x.years(1, 99, 0) >= 48, true);
        CHECK.due("3: none on the hour", Check.at(0, 0).years(1, 3, 0), 0);
        // From 1 the first three DRAWS are 3: nothing, but QUARTERS.
        CHECK.due("3", x.years(1, 3, 0), 0);
        for (int q : new int[] {-1, 0, 100, Integer.MIN_VALUE, Integer.MAX_VALUE}) {
            for (int what = 0; what < 3; what++) {
                CHECK.due("quarters " + q, x.years(1, q, what), -1);
                CHECK.due("nobody, quarters " + q, new WristPort().years(1, q, what), -1);
            }
        }
    }

    /** "what 0: how often, 1: how far, 2: beats; NONE: others". */
    private static void yearsWhat() {
        WristPort x = Check.at(0, 100);
        int[] due = {0, 100, 120};
        for (int what = 0; what < 3; what++) {
            CHECK.due("what " + what, x.years(1, 1, what), due[what]);
        }
        for (int what : new int[] {-1, 3, Integer.MIN_VALUE, Integer.MAX_VALUE}) {
            CHECK.due("what " + what, x.years(1, 1, what), -1);
            CHECK.due("nobody, what " + what, new WristPort().years(1, 1, what), -1);
        }
        CHECK.due("the farthest", Check.at(360).years(1, 1, 1), 360);
        CHECK.due("behind, without the sign", Check.at(719, 0).years(1, 1, 1), 1);
    }

    /** "each, if there are PERSONS". */
    private static void yearsIfThereArePersons() {
        for (int seed : new int[] {0, 1, 9999}) {
            for (int q : new int[] {1, 99}) {
                for (int what = 0; what < 3; what++) {
                    CHECK.due("nobody", new WristPort().years(seed, q, what), 0);
                }
            }
        }
    }

    /** One alone: no ASK of the same ones, frights and soothing by DRAWS, at all QUARTERS from 1 to 99. */
    private static void yearsOfOne() {
        for (int seed : new int[] {0, 1, 2, 5, 4242, 9998, 9999}) {
            BigInteger g = BigInteger.valueOf(seed);
            int beats = 60;
            int time = 0;
            WristPort x = Check.with("person a plain beats 60;");
            for (int q = 1; q <= 99; q++) {
                g = next(g);
                int kind = below(g, 5);
                if (kind <= 2) {
                    g = next(g);
                    g = next(g);
                    int by = below(g, 30) + 1;
                    beats = kind == 1 ? Math.min(160, beats + by) : kind == 2 ? Math.max(20, beats - by) : beats;
                }
                time = (time + beats / 4) % 720;
                int ahead = Math.floorMod(time - 15 * q, 720);
                CHECK.due("how often", x.years(seed, q, 0), 0);
                CHECK.due("how far by " + seed + " behind " + q, x.years(seed, q, 1), Math.min(ahead, 720 - ahead));
                CHECK.due("beats by " + seed + " behind " + q, x.years(seed, q, 2), beats);
            }
        }
    }

    /** "how often one was asked in these, on the hour, too": of six, all. */
    private static void yearsOfSix() {
        StringBuilder six = new StringBuilder();
        for (char name = 'a'; name <= 'f'; name++) {
            six.append("person ").append(name).append(" plain beats 160;");
        }
        WristPort x = Check.with(six + "asks a b;asks b c;asks c d;asks d e;asks e f;asks f a;");
        x.ask(5, 0);
        x.quarter();
        // From 1 the first three DRAWS are 3: nothing, but QUARTERS.
        CHECK.due("ahead of the hour", x.years(1, 2, 0), 0);
        CHECK.due("on the hour", x.years(1, 3, 0), 6);
        CHECK.due("25 a QUARTER", x.years(1, 3, 1), 100);
        CHECK.due("beats of all", x.years(1, 3, 2), 960);
    }

    /** "g becomes (g * 1103515245 + 12345) modulo 2147483648". */
    private static BigInteger next(BigInteger g) {
        return g.multiply(BigInteger.valueOf(1103515245L)).add(BigInteger.valueOf(12345)).mod(BigInteger.ONE.shiftLeft(31));
    }

    /** "it is g / 65536, cut, modulo m". */
    private static int below(BigInteger g, int m) {
        return g.divide(BigInteger.valueOf(65536)).mod(BigInteger.valueOf(m)).intValue();
    }

    /** "from now on (all is as ahead then)"; "how often one was asked in these". */
    private static void yearsLeaveAll() {
        WristPort x = Check.with("person a plain beats 60;person b plain beats 64;asks a b;moods 1;");
        x.ask(0, 1);
        x.quarter();
        x.quarter();
        String before = Check.all(x);
        int once = x.years(77, 99, 0);
        CHECK.dueSame("years", x, before);
        CHECK.due("the same once more", x.years(77, 99, 0), once);
        // From 1 the first DRAWS are 3: nothing. Two QUARTERS have passed: the hour is behind the second from now.
        CHECK.due("not yet", x.years(1, 1, 0), 0);
        CHECK.due("on the hour", x.years(1, 2, 0), 1);
        CHECK.due("what was ahead does not count", x.count(4), 1);
    }
}
