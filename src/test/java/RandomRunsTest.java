import java.util.NoSuchElementException;
import java.util.Random;

/** Holds the class against the Model by runs of calls that are drawn from fixed seeds. */
public final class RandomRunsTest {
    private static final Check CHECK = new Check("RandomRunsTest");
    private static final String[] KINDS = {"plain", "child", "old", "calm"};
    private static final String[] FACTS = {"beat", "out", "asked", "hour"};
    private static final String[] NAMES = {"ann", "bob", "beat", "dot", "eve", "out", "g", "hhhhhhhh"};
    private static final String ODD = "()<=+-*;0123456789abxyz \n.A\"~ persontasks";

    private final Random random;
    private final WristPort x = new WristPort();
    private final Model m = new Model();
    private final String run;
    private int persons;

    private RandomRunsTest(int seed) {
        random = new Random(seed);
        run = "run " + seed + ": ";
    }

    public static void main(String[] args) {
        int runs = args.length > 0 ? Integer.parseInt(args[0]) : 150;
        for (int seed = 0; seed < runs; seed++) {
            new RandomRunsTest(seed).go(40);
        }
        for (int seed = 0; seed < 3000; seed++) {
            new RandomRunsTest(100000 + seed).texts();
        }
        CHECK.end();
    }

    private int below(int n) {
        return random.nextInt(n);
    }

    private String pick(String[] row) {
        return row[below(row.length)];
    }

    private String part(int depth) {
        int kind = below(depth > 0 ? 7 : 5);
        if (kind < 3) {
            return pick(FACTS);
        }
        if (kind < 5) {
            return "" + (below(9) == 0 ? below(10000) : below(12));
        }
        return kind == 5 ? "not " + part(depth - 1) : "(" + tests(depth - 1) + ")";
    }

    private String product(int depth) {
        return part(depth) + (below(4) == 0 ? " * " + part(depth) : "");
    }

    private String sum(int depth) {
        String s = product(depth);
        while (below(3) == 0) {
            s += (below(2) == 0 ? " + " : " - ") + product(depth);
        }
        return s;
    }

    private String tests(int depth) {
        String s = sum(depth);
        int join = below(5);
        s += join == 0 ? " < " + sum(depth) : join == 1 ? " = " + sum(depth) : "";
        while (below(5) == 0) {
            s += (below(2) == 0 ? " and " : " or ") + sum(depth);
        }
        return s;
    }

    private String portText(boolean right) {
        StringBuilder s = new StringBuilder();
        persons = below(12) == 0 ? below(7) : 2 + below(5);
        for (int i = 0; i < persons; i++) {
            int beats = below(4) == 0 ? 20 + below(141) : 50 + below(24);
            s.append("person ").append(NAMES[i]).append(' ').append(pick(KINDS)).append(" beats ").append(beats)
                    .append(" ; ");
        }
        for (int i = 0; i < persons; i++) {
            int other = below(persons);
            if (other != i && below(2) == 0) {
                s.append("asks ").append(NAMES[i]).append(' ').append(NAMES[other]).append(";");
            }
            if (below(2) == 0) {
                int time = below(3) == 0 ? below(720) : (700 + below(60)) % 720;
                s.append("sets ").append(NAMES[i]).append(' ').append(time).append(";\n");
            }
        }
        if (below(2) == 0) {
            s.append("moods ").append(tests(right ? 2 : below(7))).append(" ;");
        }
        return s.toString();
    }

    private String dayText() {
        StringBuilder s = new StringBuilder();
        int lines = below(6) == 0 ? 36 + below(8) : below(15);
        for (int i = 0; i < lines; i++) {
            String a = NAMES[below(Math.max(1, persons))];
            String b = NAMES[below(Math.max(1, persons))];
            switch (persons == 0 ? 9 : below(6)) {
                case 0:
                    s.append("ask ").append(a).append(' ').append(a.equals(b) ? NAMES[(persons - 1) / 2] : b);
                    break;
                case 1:
                    s.append("fright ").append(a).append(' ').append(1 + below(60));
                    break;
                case 2:
                    s.append("soothe ").append(a).append(' ').append(1 + below(60));
                    break;
                default:
                    s.append("quarter");
            }
            s.append(" ; ");
        }
        return s.toString();
    }

    private String spoilt(String text) {
        StringBuilder s = new StringBuilder(text);
        for (int i = 0; i <= below(3); i++) {
            int at = below(s.length() + 1);
            char odd = ODD.charAt(below(ODD.length()));
            switch (below(4)) {
                case 0:
                    s.insert(at, odd);
                    break;
                case 1:
                    s.setLength(at);
                    break;
                case 2:
                    if (at < s.length()) {
                        s.setCharAt(at, odd);
                    }
                    break;
                default:
                    s.insert(at, " " + new String[] {"person", "not", "ann", "zoe", "old", "99999", "721", ";",
                        "123456789", "abcdefghi", "(", ")", "moods 1 ;", "and", "beat", "7"}[below(16)] + " ");
            }
        }
        return s.toString();
    }

    private void feed(String text) {
        for (int at = 0; at < text.length(); at += 24) {
            long a = Check.eight(text, at);
            long b = Check.eight(text, at + 8);
            long c = Check.eight(text, at + 16);
            CHECK.due(run + "feed", x.feed(a, b, c), m.feed(a, b, c));
        }
    }

    private void texts() {
        for (int i = below(3); i >= 0; i--) {
            feed(portText(true));
            CHECK.due(run + "port", x.port(), m.port());
            CHECK.due(run + "quarter", x.quarter(), m.quarter());
            facts();
        }
        String port = portText(false);
        String text = below(3) == 0 ? port : spoilt(port);
        feed(text);
        CHECK.due(run + "port " + text, x.port(), m.port());
        String day = dayText();
        text = below(3) == 0 ? day : spoilt(day);
        feed(text);
        CHECK.due(run + "day " + text, x.day(), m.day());
        for (int i = -1; i < 12; i++) {
            CHECK.due(run + "count " + i, x.count(i), m.count(i));
        }
        facts();
        CHECK.due(run + "quarter", x.quarter(), m.quarter());
        facts();
        for (int i = 0; i < 3; i++) {
            CHECK.due(run + "judged " + i, x.judged(i), m.judged(i));
        }
    }

    private void facts() {
        for (int i = 0; i < 6; i++) {
            for (int what = 0; what < 6; what++) {
                CHECK.due(run + "person " + i + " " + what, x.person(i, what), m.person(i, what));
            }
        }
    }

    /** A PERSON mostly; sometimes nobody. */
    private int one() {
        return below(10) == 0 ? below(9) - 2 : below(Math.max(1, persons));
    }

    private int upTo(int least, int most) {
        return below(12) == 0 ? least - 2 + below(most - least + 5) : least + below(most - least + 1);
    }

    private void go(int rounds) {
        feed(portText(true));
        CHECK.due(run + "port", x.port(), m.port());
        feed(dayText());
        CHECK.due(run + "day", x.day(), m.day());
        for (int i = 0; i < rounds; i++) {
            act();
            for (int k = 0; k < 4; k++) {
                question();
            }
        }
        for (int what = -1; what < 12; what++) {
            CHECK.due(run + "count " + what, x.count(what), m.count(what));
        }
        facts();
    }

    private void act() {
        int a = one();
        int b = one();
        int n = upTo(1, 60);
        switch (below(12)) {
            case 0, 1:
                CHECK.due(run + "ask " + a + " " + b, x.ask(a, b), m.ask(a, b));
                break;
            case 2:
                CHECK.due(run + "fright " + a + " " + n, x.fright(a, n), m.fright(a, n));
                break;
            case 3:
                CHECK.due(run + "soothe " + a + " " + n, x.soothe(a, n), m.soothe(a, n));
                break;
            case 4:
                CHECK.due(run + "undo", x.undo(), m.undo());
                break;
            case 5:
                int mark = upTo(0, 3);
                boolean back = below(2) == 0;
                CHECK.due(run + "mark " + mark + back, x.mark(mark, back), m.mark(mark, back));
                break;
            case 6:
                clue(a);
                break;
            default:
                CHECK.due(run + "quarter", x.quarter(), m.quarter());
        }
        facts();
    }

    /** What is seen is mostly what some pair would bring about. */
    private void clue(int a) {
        if (below(2) == 0) {
            int q = upTo(0, 24);
            int out = below(6) == 0 ? upTo(-360, 359) : below(2) == 0 ? x.later(a, q) : x.person(one(), 3);
            CHECK.due(run + "see " + a + " " + q + " " + out, x.see(a, q, out), m.see(a, q, out));
        } else {
            int q = upTo(1, 40);
            int out = below(6) == 0 ? upTo(-360, 359) : Math.floorMod(q * (below(36) - 10) + 360, 720) - 360;
            CHECK.due(run + "tell " + q + " " + out, x.tell(q, out), m.tell(q, out));
        }
    }

    private void question() {
        int a = one();
        int b = one();
        int q = upTo(1, 96);
        int what = upTo(0, 2);
        int minutes = upTo(0, 60);
        String args = " " + a + " " + b + " " + q + " " + what + " " + minutes;
        switch (below(34)) {
            case 0 -> CHECK.due(run + "judged" + args, x.judged(what), m.judged(what));
            case 1 -> CHECK.due(run + "later" + args, x.later(a, q - 1), m.later(a, q - 1));
            case 2 -> CHECK.due(run + "worst" + args, x.worst(), m.worst());
            case 3 -> CHECK.due(run + "middle" + args, x.middle(), m.middle());
            case 4 -> CHECK.due(run + "noon" + args, x.noon(a), m.noon(a));
            case 5 -> CHECK.due(run + "first" + args, x.first(), m.first());
            case 6 -> CHECK.due(run + "meet" + args, x.meet(a, b), m.meet(a, b));
            case 7 -> CHECK.due(run + "ordered" + args, x.ordered(b), m.ordered(b));
            case 8 -> CHECK.due(run + "round" + args, x.round(a, b), m.round(a, b));
            case 9 -> CHECK.due(run + "round" + args, x.round(a, -1), m.round(a, -1));
            case 10 -> CHECK.due(run + "askings" + args, x.askings(minutes), m.askings(minutes));
            case 11 -> CHECK.due(run + "train" + args, x.train(a, q), m.train(a, q));
            case 12 -> CHECK.due(run + "missed" + args, x.missed(q), m.missed(q));
            case 13 -> CHECK.due(run + "pairs" + args, x.pairs(what), m.pairs(what));
            case 14 -> CHECK.due(run + "look" + args, x.look(a), m.look(a));
            case 15 -> CHECK.due(run + "fits" + args, x.fits(what), m.fits(what));
            case 16 -> CHECK.due(run + "when" + args, x.when(), m.when());
            case 17 -> CHECK.due(run + "comes" + args, x.comes(a), m.comes(a));
            case 18 -> CHECK.due(run + "rings" + args, x.rings(), m.rings());
            case 19 -> CHECK.due(run + "calm" + args, x.calm(), m.calm());
            case 20 -> CHECK.due(run + "drift" + args, x.drift(a, q), m.drift(a, q));
            case 21 -> CHECK.due(run + "near" + args, x.near(minutes), m.near(minutes));
            case 22 -> CHECK.due(run + "spread" + args, x.spread(), m.spread());
            case 23 -> CHECK.due(run + "right" + args, x.right(a), m.right(a));
            case 24 -> CHECK.due(run + "steady" + args, x.steady(), m.steady());
            case 25 -> CHECK.due(run + "passes" + args, x.passes(a, b, q), m.passes(a, b, q));
            case 26 -> CHECK.due(run + "hub" + args, x.hub(), m.hub());
            case 27 -> CHECK.due(run + "teacher" + args, x.teacher(a), m.teacher(a));
            case 28 -> CHECK.due(run + "together" + args, x.together(), m.together());
            case 29 -> CHECK.due(run + "cure" + args, x.cure(a), m.cure(a));
            case 30 -> chance(a);
            case 31 -> rests();
            case 32 -> {
                int seed = upTo(0, 9999);
                CHECK.due(run + "years " + seed + args, x.years(seed, q, what), m.years(seed, q, what));
            }
            default -> {
                int w = upTo(0, 10);
                CHECK.due(run + "count " + w, x.count(w), m.count(w));
            }
        }
    }

    private void chance(int a) {
        int minutes = upTo(1, 60);
        int q = upTo(1, 6);
        int odds = upTo(0, 10);
        CHECK.due(run + "chance " + a + " " + minutes + " " + q + " " + odds, x.chance(a, minutes, q, odds),
                m.chance(a, minutes, q, odds));
    }

    private void rests() {
        int both = upTo(0, 9);
        int loses = upTo(0, 9);
        int gets = upTo(0, 9);
        int what = upTo(-1, 3);
        int got;
        try {
            got = x.rests(both, loses, gets, what);
        } catch (NoSuchElementException e) {
            got = -99;
        }
        CHECK.due(run + "rests " + both + loses + gets + " " + what, got, m.rests(both, loses, gets, what));
    }
}
