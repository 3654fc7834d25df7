import java.util.NoSuchElementException;
import java.util.Random;

/** Whatever is asked, in whatever state: only rests throws, only what it says, and questions change nothing. */
public final class WildTest {
    private static final Check CHECK = new Check("WildTest");
    private static final int[] WILD = {Integer.MIN_VALUE, Integer.MIN_VALUE + 1, -2147480000, -1001, -1000, -721, -720,
        -361, -360, -61, -60, -2, -1, 0, 1, 2, 3, 4, 5, 6, 7, 9, 10, 11, 20, 24, 25, 40, 41, 60, 61, 96, 97, 99, 100, 160,
        359, 360, 719, 720, 9999, 10000, 1 << 16, Integer.MAX_VALUE - 1, Integer.MAX_VALUE};

    private final Random random;
    private final WristPort x = new WristPort();

    private WildTest(int seed) {
        random = new Random(seed);
    }

    public static void main(String[] args) {
        for (int seed = 0; seed < 400; seed++) {
            try {
                new WildTest(seed).go();
                CHECK.due("wild run " + seed, 0, 0);
            } catch (RuntimeException e) {
                CHECK.due("wild run " + seed + " threw " + e, 1, 0);
            }
        }
        longest();
        CHECK.end();
    }

    private int wild() {
        return random.nextInt(3) == 0 ? random.nextInt(7) - 1 : WILD[random.nextInt(WILD.length)];
    }

    private void go() {
        String[] ports = {"", "person a old beats 20 ; sets a 360 ; moods beat * out * 9999 * 9999 - asked ;",
            "person a child beats 160;person b old beats 20;person c calm beats 60;person d plain beats 61;"
                + "person e plain beats 99;person f child beats 21;asks a b;asks b c;asks c a;asks d f;asks f d;"
                + "sets a 719;sets c 359;sets d 360;moods not (hour < 6) or out < 0 - asked;"};
        Check.port(x, ports[random.nextInt(3)]);
        Check.day(x, "quarter ; ask a b ; fright a 60 ; ask b a ; soothe b 60 ; quarter ;");
        for (int call = 0; call < 400; call++) {
            if (random.nextInt(3) == 0) {
                act(random.nextInt(9));
            } else {
                String before = Check.all(x);
                question(random.nextInt(35));
                CHECK.dueSame("a question", x, before);
            }
        }
    }

    private void act(int which) {
        switch (which) {
            case 0 -> x.feed(random.nextLong(), random.nextLong(), random.nextLong());
            case 1 -> x.ask(wild(), wild());
            case 2 -> x.fright(wild(), wild());
            case 3 -> x.soothe(wild(), wild());
            case 4 -> x.undo();
            case 5 -> x.see(wild(), wild(), wild());
            case 6 -> x.tell(wild(), wild());
            case 7 -> x.mark(wild(), random.nextBoolean());
            default -> x.quarter();
        }
        if (random.nextInt(30) == 0) {
            CHECK.due("a wild tape has a fault", x.count(10) == 0 || (random.nextBoolean() ? x.port() : x.day()) > 0, true);
        }
    }

    private void question(int which) {
        switch (which) {
            case 0 -> x.person(wild(), wild());
            case 1 -> x.judged(wild());
            case 2 -> x.later(wild(), wild());
            case 3 -> x.worst();
            case 4 -> x.middle();
            case 5 -> x.noon(wild());
            case 6 -> x.first();
            case 7 -> x.meet(wild(), wild());
            case 8 -> x.ordered(wild());
            case 9 -> x.round(wild(), wild());
            case 10 -> x.askings(wild());
            case 11 -> x.train(wild(), wild());
            case 12 -> x.missed(wild());
            case 13 -> x.pairs(wild());
            case 14 -> x.look(wild());
            case 15 -> x.fits(wild());
            case 16 -> x.when();
            case 17 -> x.comes(wild());
            case 18 -> x.rings();
            case 19 -> x.calm();
            case 20 -> x.drift(wild(), wild());
            case 21 -> x.near(wild());
            case 22 -> x.spread();
            case 23 -> x.right(wild());
            case 24 -> x.steady();
            case 25 -> x.passes(wild(), wild(), wild());
            case 26 -> x.hub();
            case 27 -> x.teacher(wild());
            case 28 -> x.together();
            case 29 -> x.cure(wild());
            case 30 -> x.chance(wild(), wild(), wild(), wild());
            case 31 -> rests();
            case 32 -> x.years(wild(), wild(), wild());
            case 33 -> x.mark(wild(), false);
            default -> x.count(wild());
        }
    }

    private void rests() {
        try {
            int got = x.rests(wild(), wild(), wild(), wild());
            CHECK.due("rests", got >= 0 && got <= 4, true);
        } catch (NoSuchElementException e) {
            CHECK.due("rests may throw that", 0, 0);
        }
    }

    /** The longest and the deepest moods that a TAPE can hold. */
    private static void longest() {
        WristPort x = new WristPort();
        StringBuilder s = new StringBuilder("person a old beats 60 ; moods 1");
        while (s.length() < 996) {
            s.append("+1");
        }
        CHECK.due("the longest", Check.port(x, s + ";"), 0);
        x.quarter();
        CHECK.due("20 more", x.person(0, 1), 80);
        String deep = "0 or 0 = 1 + 2 * ";
        String text = "person a old beats 60 ; moods " + (deep + "(").repeat(4) + deep + "3" + "))))" + ";";
        CHECK.due("the deepest", Check.port(x, text), 0);
        x.quarter();
        CHECK.due("0 = 1 + 2 * .. is not so", x.person(0, 1), 60);
        // From within: 0 < 1 is 1; 0 - 1 + 2 is 1; so at each depth.
        String wide = "0 or 0 < 0 - 1 + 2 * ";
        text = "person a old beats 60 ; moods " + (wide + "(").repeat(4) + wide + "1" + "))))" + ";";
        CHECK.due("deep and wide", Check.port(x, text), 0);
        x.quarter();
        CHECK.due("1", x.person(0, 1), 61);
    }
}
