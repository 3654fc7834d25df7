/** Edges of a PORT's and a DAY's lines, of NAMES and FAULTS: section "Terms", promises 1, 3, 4. */
public final class PortEdgesTest {
    private static final Check CHECK = new Check("PortEdgesTest");
    private static final String TWO = "person pp plain beats 60;person qq old beats 60;";
    private static final String[] RESERVED = {"person", "beats", "asks", "sets", "moods", "ask", "fright", "soothe",
        "quarter", "plain", "child", "old", "calm", "not", "and", "or"};
    /** None of these can stand where a line goes on: no token, a longer one, a WORD that is no NAME, a sign. */
    private static final String[] WRONG = {"", "!", "A", "_", "abcdefghi", "12345", "or", "quarter", ")", "<"};

    public static void main(String[] args) {
        persons6AtMost();
        kindsAreFour();
        beats20To160();
        asksOneAtMost();
        sets0To719();
        moodsOnce();
        namesAreOtherWords();
        noTwoAreAlike();
        tokensThatCantStandThere();
        anyNumberOfLines();
        theFirstWrongToken();
        theLeastOfOneToken();
        day40Lines();
        dayBy1To60();
        dayOfPersonsTold();
        withAFaultAllStays();
        withoutAFaultAllIsNew();
        aDayIsTheDay();
        atFirstNothing();
        CHECK.end();
    }

    private static String persons(int many) {
        StringBuilder s = new StringBuilder();
        for (int i = 0; i < many; i++) {
            s.append("person ").append((char) ('a' + i)).append(" old beats ").append(20 + i).append(';');
        }
        return s.toString();
    }

    /** "person: 6 at most, numbered as told"; "5 one too many: the word person of a seventh". */
    private static void persons6AtMost() {
        for (int many = 0; many <= 6; many++) {
            WristPort x = Check.with(persons(many));
            CHECK.due("persons", x.count(0), many);
            for (int i = 0; i < many; i++) {
                CHECK.due("numbered as told", x.person(i, 1), 20 + i);
            }
            CHECK.due("no more", x.person(many, 1), -1000);
        }
        String six = persons(6);
        CHECK.duePort(persons(7), Check.fault(5, six));
        CHECK.duePort(six + " person", Check.fault(5, six + " "));
        CHECK.duePort(six + "person a", Check.fault(5, six));
        CHECK.duePort(six + "person !", Check.fault(5, six));
        CHECK.duePort(six + "asks a f;asks f a;sets f 719;moods 1;", 0);
        CHECK.duePort(six + "asks a f;person g", Check.fault(5, six + "asks a f;"));
        CHECK.duePort(persons(5) + "asks a f", Check.fault(2, persons(5) + "asks a "));
    }

    /** "KIND: plain, child, old, calm". */
    private static void kindsAreFour() {
        String[] kinds = {"plain", "child", "old", "calm"};
        for (int i = 0; i < 4; i++) {
            CHECK.due(kinds[i], Check.with("person a " + kinds[i] + " beats 60;").person(0, 0), i);
        }
        for (String word : new String[] {"young", "a", "beats", "person", "plai", "plains", "calm1", "60"}) {
            int due = word.equals("calm1") ? Check.fault(1, "person a calm") : Check.fault(1, "person a ");
            CHECK.duePort("person a " + word + " beats 60;", due);
        }
    }

    /** "beats 20 to 160"; "4 a NUMBER that is not as told". */
    private static void beats20To160() {
        String before = "person a old beats ";
        for (int beats = 0; beats <= 200; beats++) {
            boolean fine = beats >= 20 && beats <= 160;
            WristPort x = new WristPort();
            CHECK.due("beats " + beats, Check.port(x, before + beats + ";"), fine ? 0 : Check.fault(4, before));
            CHECK.due("beats", x.person(0, 1), fine ? beats : -1000);
        }
        CHECK.duePort(before + "9999", Check.fault(4, before));
    }

    /** "asks: two PERSONS told, not the same, .. each asks one at most". */
    private static void asksOneAtMost() {
        WristPort x = Check.with(persons(3) + "asks a b;asks b a;asks c a;");
        CHECK.due("a asks b", x.person(0, 5), 1);
        CHECK.due("b asks a", x.person(1, 5), 0);
        CHECK.due("c asks a, too", x.person(2, 5), 0);
        CHECK.due("nobody", Check.with(persons(1)).person(0, 5), -1);
        CHECK.duePort(TWO + "asks pp qq;asks pp", Check.fault(3, TWO + "asks pp qq;asks "));
        CHECK.duePort(TWO + "asks pp qq;asks pp qq;", Check.fault(3, TWO + "asks pp qq;asks "));
        CHECK.duePort(TWO + "asks pp qq;asks qq pp;", 0);
        CHECK.duePort(TWO + "asks pp qq;asks qq qq", Check.fault(3, TWO + "asks pp qq;asks qq "));
        CHECK.duePort(TWO + "asks pp pp", Check.fault(3, TWO + "asks pp "));
        CHECK.duePort(TWO + "asks qq qq", Check.fault(3, TWO + "asks qq "));
        CHECK.duePort(TWO + "asks rr pp", Check.fault(2, TWO + "asks "));
        CHECK.duePort(TWO + "asks pp rr", Check.fault(2, TWO + "asks pp "));
        CHECK.duePort(TWO + "asks rr rr", Check.fault(2, TWO + "asks "));
        String ahead = "person pp old beats 20;asks pp ";
        CHECK.duePort(ahead + "qq;person qq old beats 20;", Check.fault(2, ahead));
        CHECK.duePort("asks pp qq;" + TWO, Check.fault(2, "asks "));
    }

    /** "sets: a PERSON's time at first, 0 to 719 (0), each once". */
    private static void sets0To719() {
        WristPort x = Check.with(TWO + "sets pp 719;");
        CHECK.due("719", x.person(0, 2), 719);
        CHECK.due("not told: 0", x.person(1, 2), 0);
        CHECK.due("0", Check.with(TWO + "sets qq 0;").person(1, 2), 0);
        CHECK.due("1", Check.with(TWO + "sets qq 1;").person(1, 2), 1);
        CHECK.duePort(TWO + "sets pp 720;", Check.fault(4, TWO + "sets pp "));
        CHECK.duePort(TWO + "sets pp 9999;", Check.fault(4, TWO + "sets pp "));
        CHECK.duePort(TWO + "sets pp - 1;", Check.fault(1, TWO + "sets pp "));
        CHECK.duePort(TWO + "sets pp 1;sets qq 1;", 0);
        CHECK.duePort(TWO + "sets pp 1;sets pp", Check.fault(3, TWO + "sets pp 1;sets "));
        // Told as 0 is told, too.
        CHECK.duePort(TWO + "sets pp 0;sets pp 0;", Check.fault(3, TWO + "sets pp 0;sets "));
        CHECK.duePort(TWO + "sets rr 0;", Check.fault(2, TWO + "sets "));
        // What a PORT ahead told is not told in the next one, of the sixth either.
        x = new WristPort();
        for (int i = 0; i < 4; i++) {
            CHECK.due("the same PORT again", Check.port(x, persons(6) + "sets a 1;sets f 719;asks a b;asks f a;moods 1;"), 0);
            CHECK.due("a FAULT at last", Check.port(x, persons(6) + "sets a 1;sets f 719;!") % 16, 1);
        }
        CHECK.duePort("sets pp 0;" + TWO, Check.fault(2, "sets "));
    }

    /** "moods: once"; "moods a second time". */
    private static void moodsOnce() {
        CHECK.duePort("moods 1;", 0);
        CHECK.duePort("moods 1;moods 1;", Check.fault(3, "moods 1;"));
        CHECK.duePort("moods 0;" + TWO + "moods", Check.fault(3, "moods 0;" + TWO));
        CHECK.duePort("moods 1;moods !", Check.fault(3, "moods 1;"));
    }

    /** "A NAME is another WORD than person, .. the KINDS, not, and, or". */
    private static void namesAreOtherWords() {
        for (String word : RESERVED) {
            CHECK.duePort("person " + word + " old beats 60;", Check.fault(1, "person "));
            CHECK.duePort(TWO + "asks " + word + " pp;", Check.fault(1, TWO + "asks "));
            CHECK.duePort(TWO + "asks pp " + word + ";", Check.fault(1, TWO + "asks pp "));
            CHECK.duePort(TWO + "sets " + word + " 1;", Check.fault(1, TWO + "sets "));
            CHECK.dueDay(TWO, "ask " + word + " pp;", Check.fault(1, "ask "));
            CHECK.dueDay(TWO, "ask pp " + word + ";", Check.fault(1, "ask pp "));
            CHECK.dueDay(TWO, "fright " + word + " 1;", Check.fault(1, "fright "));
            CHECK.dueDay(TWO, "soothe " + word + " 1;", Check.fault(1, "soothe "));
        }
        String[] names = {"beat", "out", "asked", "hour", "quarters", "persons", "set", "mood", "nots", "an", "o", "ol",
            "port", "day", "kind", "plains", "children", "a", "zzzzzzzz"};
        for (String name : names) {
            String told = "person " + name + " old beats 60;person x old beats 60;";
            CHECK.duePort(told + "asks " + name + " x;asks x " + name + ";sets " + name + " 5;", 0);
            CHECK.dueDay(told, "ask " + name + " x;ask x " + name + ";fright " + name + " 1;soothe " + name + " 1;", 0);
        }
        // A PERSON whose NAME is a fact's: the fact is meant in moods.
        WristPort x = Check.with("person hour plain beats 60;person beat plain beats 80;moods beat - 70;");
        x.quarter();
        CHECK.due("60 - 10", x.person(0, 1), 50);
        CHECK.due("80 + 10", x.person(1, 1), 90);
    }

    /** "no two are alike"; "3 a NAME told already". */
    private static void noTwoAreAlike() {
        CHECK.duePort(TWO + "person pp", Check.fault(3, TWO + "person "));
        CHECK.duePort(TWO + "person qq old beats 60;", Check.fault(3, TWO + "person "));
        CHECK.duePort(TWO + "person p old beats 60;person ppp old beats 60;person q old beats 60;", 0);
        String five = persons(5);
        for (char name = 'a'; name <= 'e'; name++) {
            CHECK.duePort(five + "person " + name, Check.fault(3, five + "person "));
        }
        CHECK.duePort(five + "person f old beats 60;", 0);
        CHECK.duePort("person ab old beats 60;person ba old beats 60;person aab old beats 60;", 0);
    }

    /** "1 it is none, or can't stand there": at each place of each line. */
    private static void tokensThatCantStandThere() {
        String[] lines = {"person cc old beats 60 ;", "asks pp qq ;", "sets pp 5 ;", "moods beat + 1 ;"};
        for (String line : lines) {
            wrongTokens(line, true);
        }
        String[] dayLines = {"ask pp qq ;", "fright pp 1 ;", "soothe pp 1 ;", "quarter ;"};
        for (String line : dayLines) {
            wrongTokens(line, false);
        }
        CHECK.duePort(TWO + "!", Check.fault(1, TWO));
        CHECK.duePort(TWO + ";", Check.fault(1, TWO));
        CHECK.duePort(";", 1);
        CHECK.dueDay(TWO, ";", 1);
        CHECK.dueDay(TWO, "quarter;;", Check.fault(1, "quarter;"));
        for (String word : new String[] {"ask", "fright", "soothe", "quarter", "beats", "plain", "pp", "not", "1"}) {
            CHECK.duePort(TWO + word + " pp qq;", Check.fault(1, TWO));
        }
        for (String word : new String[] {"person", "asks", "sets", "moods", "beats", "plain", "pp", "not", "1"}) {
            CHECK.dueDay(TWO, word + " pp qq;", 1);
        }
    }

    private static void wrongTokens(String line, boolean isPort) {
        String[] tokens = line.split(" ");
        StringBuilder before = new StringBuilder(isPort ? TWO : "");
        for (int i = 0; i < tokens.length; i++) {
            boolean sumMayGoOn = tokens[0].equals("moods") && i >= 2;
            for (String wrong : WRONG) {
                boolean fine = i == 0 && (wrong.isEmpty() || !isPort && wrong.equals("quarter"))
                        || sumMayGoOn && (wrong.equals("or") || wrong.equals("<"));
                if (!fine) {
                    String text = before + wrong;
                    if (isPort) {
                        CHECK.duePort(text, Check.fault(1, before.toString()));
                    } else {
                        CHECK.dueDay(TWO, text, Check.fault(1, before.toString()));
                    }
                }
            }
            before.append(tokens[i]).append(' ');
        }
        if (isPort) {
            CHECK.duePort(before.toString(), 0);
        } else {
            CHECK.dueDay(TWO, before.toString(), 0);
        }
    }

    /** "any number of": none, one, in any order, as many as the TAPE holds. */
    private static void anyNumberOfLines() {
        CHECK.duePort("", 0);
        CHECK.duePort("moods 1;", 0);
        CHECK.duePort("moods 1;person a old beats 20;sets a 1;person b old beats 20;asks a b;sets b 1;", 0);
        // 6 PERSONS, 6 asks, 6 sets and moods: all that can be told.
        StringBuilder all = new StringBuilder(persons(6));
        for (int i = 0; i < 6; i++) {
            char name = (char) ('a' + i);
            char next = (char) ('a' + (i + 1) % 6);
            all.append("asks ").append(name).append(' ').append(next).append(";sets ").append(name).append(" 719;");
        }
        WristPort x = Check.with(all + "moods 20;");
        CHECK.due("a ring of six", x.rings(), 63);
        CHECK.due("each at 719", x.count(5), 63);
        CHECK.dueDay(TWO, "", 0);
        CHECK.dueDay(TWO, "quarter;", 0);
    }

    /** "of the first token from the left that is wrong". */
    private static void theFirstWrongToken() {
        CHECK.duePort("asks a b;moods 1;moods 1;!", Check.fault(2, "asks "));
        CHECK.duePort("moods 1;moods 1;!", Check.fault(3, "moods 1;"));
        CHECK.duePort("person a old beats 1 !", Check.fault(4, "person a old beats "));
        CHECK.duePort("person a old beats 20 ! sets", Check.fault(1, "person a old beats 20 "));
        CHECK.dueDay(TWO, "fright pp 0 !", Check.fault(4, "fright pp "));
        CHECK.dueDay(TWO, "ask rr !", Check.fault(2, "ask "));
        CHECK.duePort("!person", 1);
        CHECK.dueDay(TWO, "! quarter", 1);
    }

    /** ".. the least": what can't stand there is 1, though it would be one too many as well. */
    private static void theLeastOfOneToken() {
        String six = persons(6);
        CHECK.duePort(six + "persons", Check.fault(1, six));
        CHECK.duePort(six + "quarter", Check.fault(1, six));
        String forty = "quarter;".repeat(40);
        CHECK.dueDay(TWO, forty + "asks", Check.fault(1, forty));
        CHECK.dueDay(TWO, forty + "!", Check.fault(1, forty));
        CHECK.dueDay(TWO, forty + ";", Check.fault(1, forty));
        CHECK.duePort("moods (((((!", Check.fault(1, "moods ((((("));
        CHECK.duePort("moods (((((and", Check.fault(1, "moods ((((("));
        CHECK.duePort("moods ((((()", Check.fault(1, "moods ((((("));
        // A longer NUMBER is none: 1, not 4.
        CHECK.duePort("person a old beats 99999", Check.fault(1, "person a old beats "));
    }

    /** "40 lines at most"; "5 .. the first word of a 41st line of a DAY". */
    private static void day40Lines() {
        String[] lines = {"quarter;", "ask pp qq;", "fright pp 1;", "soothe qq 60;"};
        for (String line : lines) {
            WristPort x = Check.with(TWO);
            CHECK.due("39 lines", Check.day(x, line.repeat(39)), 0);
            CHECK.due("39", x.count(6), 39);
            CHECK.due("40 lines", Check.day(x, line.repeat(40)), 0);
            CHECK.due("40", x.count(6), 40);
            String forty = "quarter;".repeat(40);
            CHECK.due("41 lines", Check.day(x, forty + line), Check.fault(5, forty));
            CHECK.due("the word alone", Check.day(x, forty + " " + line.split("[ ;]")[0]), Check.fault(5, forty + " "));
            CHECK.due("40 yet", x.count(6), 40);
        }
        String forty = "quarter;".repeat(40);
        CHECK.dueDay(TWO, forty + "ask !", Check.fault(5, forty));
        CHECK.dueDay(TWO, forty + " \n ", 0);
        CHECK.dueDay(TWO, "quarter;".repeat(41) + "!", Check.fault(5, forty));
        CHECK.dueDay(TWO, "quarter;".repeat(39) + "ask pp rr", Check.fault(2, "quarter;".repeat(39) + "ask pp "));
    }

    /** "(.. a PERSON by 1 to 60; a PERSON by 1 to 60)". */
    private static void dayBy1To60() {
        for (String word : new String[] {"fright", "soothe"}) {
            String before = word + " pp ";
            for (int by = 0; by <= 70; by++) {
                CHECK.dueDay(TWO, before + by + ";", by >= 1 && by <= 60 ? 0 : Check.fault(4, before));
            }
            CHECK.dueDay(TWO, before + "9999", Check.fault(4, before));
            CHECK.dueDay(TWO, before + ";", Check.fault(1, before));
            CHECK.dueDay(TWO, before + "-1", Check.fault(1, before));
        }
    }

    /** "a PERSON another one"; "2 a NAME of no PERSON told". */
    private static void dayOfPersonsTold() {
        CHECK.dueDay(TWO, "ask pp qq;ask qq pp;", 0);
        CHECK.dueDay(TWO, "ask pp pp", Check.fault(3, "ask pp "));
        CHECK.dueDay(TWO, "ask qq qq", Check.fault(3, "ask qq "));
        CHECK.dueDay(TWO, "ask rr pp", Check.fault(2, "ask "));
        CHECK.dueDay(TWO, "ask pp rr", Check.fault(2, "ask pp "));
        CHECK.dueDay(TWO, "ask p qq", Check.fault(2, "ask "));
        CHECK.dueDay(TWO, "fright rr 99", Check.fault(2, "fright "));
        CHECK.dueDay(TWO, "soothe rr !", Check.fault(2, "soothe "));
        CHECK.dueDay("", "quarter;quarter;", 0);
        CHECK.dueDay("", "ask pp qq;", Check.fault(2, "ask "));
        // NAMES of the PORT ahead, or of one with a FAULT, are not told.
        WristPort x = Check.with(TWO);
        Check.port(x, persons(2));
        CHECK.due("pp is gone", Check.day(x, "fright pp 1;"), Check.fault(2, "fright "));
        CHECK.due("a is there", Check.day(x, "fright a 1;"), 0);
        Check.port(x, TWO + "!");
        CHECK.due("pp is not", Check.day(x, "fright pp 1;"), Check.fault(2, "fright "));
        CHECK.due("a is there yet", Check.day(x, "fright b 1;"), 0);
    }

    private static WristPort busy() {
        WristPort x = Check.with(TWO + "asks pp qq;sets qq 100;moods 3;");
        CHECK.due("a DAY", Check.day(x, "quarter;ask pp qq;"), 0);
        x.quarter();
        x.ask(0, 1);
        x.fright(0, 9);
        x.see(0, 3, 3);
        x.tell(2, 4);
        for (int i = 0; i < 4; i++) {
            x.mark(i, false);
        }
        x.soothe(1, 2);
        return x;
    }

    /** "0, or its FAULT (all stays then)": for each kind of FAULT, at the last token, too. */
    private static void withAFaultAllStays() {
        String full = persons(6) + "asks a b;sets a 7;moods 5;";
        String[] ports = {"!", "person", full + "!", full + "asks x", full + "asks a", full + "moods", full + "person",
            full + "sets b 720", full + "sets b 1", "moods (((((1"};
        for (String text : ports) {
            WristPort x = busy();
            String before = Check.all(x);
            CHECK.due("a FAULT " + text, Check.port(x, text) != 0, true);
            CHECK.dueSame("port with a FAULT: " + text, x, before);
            stillBusy(x);
        }
        String[] days = {"!", "quarter", "quarter;fright pp 1;ask pp", "ask pp pp", "fright a 1;", "fright qq 61;",
            "quarter;".repeat(41)};
        for (String text : days) {
            WristPort x = busy();
            String before = Check.all(x);
            CHECK.due("a FAULT " + text, Check.day(x, text) != 0, true);
            CHECK.dueSame("day with a FAULT: " + text, x, before);
            stillBusy(x);
        }
    }

    /** The law, who asks whom, what can be undone, and the MARKS are as busy() left them. */
    private static void stillBusy(WristPort x) {
        CHECK.due("moods yet", x.years(1, 1, 2), 60 + 3 + 9 + 60 + 3 - 2 + 3 + 3);
        CHECK.due("asks yet", x.comes(1), 1);
        CHECK.due("undo yet", x.undo(), true);
        CHECK.due("the beats ahead", x.person(1, 1), 63);
        CHECK.due("a DAY of its NAMES", Check.day(x, "ask pp qq;"), 0);
        for (int i = 0; i < 4; i++) {
            CHECK.due("the MARK yet", x.mark(i, true), true);
        }
    }

    /** "no quarter has passed, times and beats as told, nobody was asked, no DAY, nothing SEEN, .. no MARK is there". */
    private static void withoutAFaultAllIsNew() {
        String[] texts = {"", "person a old beats 20;", TWO + "asks pp qq;sets qq 100;moods 3;"};
        for (String text : texts) {
            WristPort x = busy();
            WristPort fresh = Check.with(text);
            CHECK.due("a PORT", Check.port(x, text), 0);
            CHECK.dueSame("as on a new object", x, Check.all(fresh));
            CHECK.due("no quarter has passed", x.count(1), 0);
            CHECK.due("nobody was asked", x.count(4), 0);
            CHECK.due("no DAY", x.count(6), 0);
            CHECK.due("nothing SEEN", x.count(7), 0);
            CHECK.due("nothing TOLD", x.count(8), 0);
            CHECK.due("nothing can be undone", x.count(9), 0);
            CHECK.due("nothing can be undone", x.undo(), false);
            for (int i = 0; i < 4; i++) {
                CHECK.due("no MARK", x.mark(i, true), false);
            }
            for (int q = 1; q <= 5; q++) {
                x.quarter();
                fresh.quarter();
                CHECK.dueSame("quarter " + q, x, Check.all(fresh));
            }
        }
    }

    /** "A DAY is the DAY": the whole of it, and nothing else changes. */
    private static void aDayIsTheDay() {
        WristPort x = busy();
        int undone = x.count(9);
        CHECK.due("a longer one", Check.day(x, "quarter;".repeat(8) + "ask qq pp;"), 0);
        CHECK.due("its lines", x.count(6), 9);
        CHECK.due("its askings: two on the hour, and one", x.judged(2), 3);
        CHECK.due("a shorter one", Check.day(x, "ask pp qq;"), 0);
        CHECK.due("its line", x.count(6), 1);
        CHECK.due("its asking", x.judged(2), 1);
        CHECK.due("none", Check.day(x, ""), 0);
        CHECK.due("no asking", x.judged(2), 0);
        CHECK.due("a DAY is not done", x.count(1), 1);
        CHECK.due("a DAY is nothing to be undone", x.count(9), undone);
        CHECK.due("SEEN stays", x.count(7), 1);
        CHECK.due("TOLD stays", x.count(8), 1);
        CHECK.due("MARKS stay", x.mark(3, true), true);
    }

    /** "At first: nothing." */
    private static void atFirstNothing() {
        WristPort x = new WristPort();
        CHECK.dueSame("a new object is as a PORT of nobody", x, Check.all(Check.with("")));
        CHECK.due("NONE", WristPort.NONE, -1);
        for (int what = 0; what <= 10; what++) {
            CHECK.due("count " + what, x.count(what), 0);
        }
        for (int i = 0; i < 4; i++) {
            CHECK.due("no MARK", x.mark(i, true), false);
        }
        CHECK.due("no UNDO", x.undo(), false);
        x.quarter();
        CHECK.due("another object has its own", new WristPort().count(1), 0);
    }
}
