/** Promises 1 to 5 and 46: a new object, feed, port, day, person, count. */
public final class TellingTest {
    private static final Check CHECK = new Check("TellingTest");
    private static final String TWO = "person pp plain beats 60 ; person qq old beats 60 ; ";

    public static void main(String[] args) {
        newObject();
        feed();
        ports();
        portFaults();
        faultLeavesAll();
        portsInARow();
        moodsInARow();
        moodFaults();
        moodValues();
        days();
        persons();
        counts();
        CHECK.end();
    }

    private static void newObject() {
        WristPort x = new WristPort();
        for (int what = 0; what <= 10; what++) {
            CHECK.due("new count " + what, x.count(what), 0);
        }
        CHECK.due("new undo", x.undo(), false);
        CHECK.due("new quarter", x.quarter(), 15);
        for (int i = 0; i < 4; i++) {
            CHECK.due("new mark", x.mark(i, true), false);
        }
    }

    private static void feed() {
        WristPort x = new WristPort();
        CHECK.due("highest first", x.feed(0x706572736f6e2070L, 0x2020202020202020L, 0x706c61696e20626fL), 24);
        CHECK.due("person p plain bo", x.port(), 1 + 16 * 22);
        CHECK.due("taken", x.count(10), 0);
        CHECK.due("left out", x.feed(0x00090b0d1f7f80ffL, -1L, 0L), 0);
        CHECK.due("10, 32, 126", x.feed(0x0a207e0000000000L, 0L, 0x0aL), 4);
        CHECK.due("its faults", x.port(), 1 + 16 * 2);
        for (int i = 1; i <= 41; i++) {
            CHECK.due("blanks", x.feed(0x2020202020202020L, 0x2020202020202020L, 0x2020202020202020L), 24 * i);
        }
        CHECK.due("up to 1,000", x.feed(0x2020202020202020L, 0x2020202020202020L, 0x3b3b3b3b3b3b3b3bL), 1000);
        CHECK.due("beyond", x.feed(0x3b3b3b3b3b3b3b3bL, 0x3b3bL, 0x3bL), 1000);
        CHECK.due("on the tape", x.count(10), 1000);
        CHECK.due("all are blanks", x.day(), 0);
        CHECK.due("taken too", x.count(10), 0);
    }

    private static void port(String text, int due) {
        WristPort x = new WristPort();
        CHECK.due("port: " + text, Check.port(x, text), due);
        CHECK.due("taken: " + text, x.count(10), 0);
    }

    private static int fault(int kind, String before) {
        return kind + 16 * before.length();
    }

    private static void ports() {
        port("", 0);
        port(" \n ", 0);
        port("person a plain beats 20;person b child beats160;\nperson c old beats 99 ;person d calm beats 0060;", 0);
        port("person abcdefgh plain beats 20 ;", 0);
        port("person beat plain beats 20;person out old beats 20;person asked old beats 20;person hour old beats 20;"
                + "asks beat out;moods beat+out;", 0);
        port(TWO + "asks pp qq;asks qq pp;sets qq 0;sets pp 719;moods 1;", 0);
        port("moods 1 ; person a old beats 20 ;", 0);
        StringBuilder six = new StringBuilder();
        for (char c = 'a'; c <= 'f'; c++) {
            six.append("person ").append(c).append(" old beats 20;");
        }
        port(six.toString(), 0);
        port(six + "person", fault(5, six.toString()));
        port(six + "  person a", fault(5, six + "  "));
    }

    private static void portFaults() {
        for (String word : new String[] {"person", "beats", "asks", "sets", "moods", "ask", "fright", "soothe",
            "quarter", "plain", "child", "old", "calm", "not", "and", "or"}) {
            port("person " + word + " old beats 20 ;", fault(1, "person "));
            port(TWO + "asks " + word, fault(1, TWO + "asks "));
            port(TWO + "asks pp " + word, fault(1, TWO + "asks pp "));
            port(TWO + "sets " + word, fault(1, TWO + "sets "));
        }
        port("person", fault(1, "person"));
        port("person  ", fault(1, "person  "));
        port("persona old", 1);
        port("Person", 1);
        port("person abcdefghi old", fault(1, "person "));
        port("person a1 old", fault(1, "person a"));
        port("person 1", fault(1, "person "));
        port("person a adult", fault(1, "person a "));
        port("person a old 20", fault(1, "person a old "));
        port("person a old beats x", fault(1, "person a old beats "));
        port("person a old beats 00020 ;", fault(1, "person a old beats "));
        port("person a old beats 19 ;", fault(4, "person a old beats "));
        port("person a old beats 161x", fault(4, "person a old beats "));
        port("person a old beats 20x", fault(1, "person a old beats 20"));
        port("person a old beats 20", fault(1, "person a old beats 20"));
        port(TWO + "person pp", fault(3, TWO + "person "));
        port("asks a", fault(2, "asks "));
        port(TWO + "asks pp x", fault(2, TWO + "asks pp "));
        port(TWO + "asks pp pp", fault(3, TWO + "asks pp "));
        port(TWO + "asks pp qq ; asks qq pp ; asks pp qq", fault(3, TWO + "asks pp qq ; asks qq pp ; asks "));
        port(TWO + "asks pp qq qq", fault(1, TWO + "asks pp qq "));
        port("sets a", fault(2, "sets "));
        port(TWO + "sets pp 720", fault(4, TWO + "sets pp "));
        port(TWO + "sets pp qq", fault(1, TWO + "sets pp "));
        port(TWO + "sets pp 1 ; sets qq 1 ; sets pp", fault(3, TWO + "sets pp 1 ; sets qq 1 ; sets "));
        port(TWO + "; ", fault(1, TWO));
        port(TWO + "quarter ; ", fault(1, TWO));
        port(TWO + "~", fault(1, TWO));
        port("asks b a ; person a old beats 20 ; person b old beats 20 ;", fault(2, "asks "));
    }

    private static void faultLeavesAll() {
        WristPort x = Check.with(TWO);
        x.quarter();
        Check.day(x, "quarter;");
        x.see(0, 1, 0);
        x.tell(1, 0);
        x.mark(0, false);
        CHECK.due("a fault", Check.port(x, "person a old beats 20 ; person a"), fault(3, "person a old beats 20 ; person "));
        int[] due = {2, 1, 15, 120, 0, 2, 1, 1, 1, 1, 0};
        for (int what = 0; what < due.length; what++) {
            CHECK.due("all stays " + what, x.count(what), due[what]);
        }
        CHECK.due("the DAY stays by its fault", Check.day(x, "quarter ; quarter"), fault(1, "quarter ; quarter"));
        CHECK.due("lines", x.count(6), 1);
        CHECK.due("a new PORT", Check.port(x, "person a old beats 20 ;"), 0);
        int[] then = {1, 0, 0, 20, 0, 0, 0, 0, 0, 0, 0};
        for (int what = 0; what < then.length; what++) {
            CHECK.due("all is new " + what, x.count(what), then[what]);
        }
        CHECK.due("no MARK", x.mark(0, true), false);
        CHECK.due("no UNDO", x.undo(), false);
        CHECK.due("a PORT of nobody", Check.port(x, ""), 0);
        CHECK.due("nobody", x.count(0), 0);
    }

    /** A PORT, and one with a fault, leave nothing behind for the next ones. */
    private static void portsInARow() {
        WristPort x = new WristPort();
        String full = TWO + "asks pp qq;asks qq pp;sets pp 1;sets qq 2;moods 5;";
        for (int i = 0; i < 4; i++) {
            CHECK.due("full", Check.port(x, full), 0);
            x.quarter();
            CHECK.due("moods", x.person(0, 1), 65);
            CHECK.due("time", x.person(1, 2), 15);
            CHECK.due("a fault at the end", Check.port(x, full + "sets"), fault(1, full + "sets"));
            CHECK.due("bare", Check.port(x, TWO), 0);
            CHECK.due("time", x.person(0, 2), 0);
            CHECK.due("asks", x.person(1, 5), -1);
            x.quarter();
            CHECK.due("no moods", x.person(0, 1), 60);
            CHECK.due("a fault at the end", Check.port(x, full + "sets"), fault(1, full + "sets"));
        }
    }

    /** Many laws, one after the other: each is the whole law. */
    private static void moodsInARow() {
        WristPort x = new WristPort();
        for (int i = 0; i < 80; i++) {
            Check.port(x, "person a old beats 60;moods " + i % 20 + ";");
            x.quarter();
            CHECK.due("moods " + i % 20, x.person(0, 1), 60 + i % 20);
        }
    }

    private static void moodFaults() {
        port("moods", fault(1, "moods"));
        port("moods ;", fault(1, "moods "));
        port("moods pp", fault(1, "moods "));
        port("moods - 1", fault(1, "moods "));
        port("moods 10000", fault(1, "moods "));
        port("moods 1 2", fault(1, "moods 1 "));
        port("moods 1 and", fault(1, "moods 1 and"));
        port("moods 1 = 1 = 1", fault(1, "moods 1 = 1 "));
        port("moods 1 < 1 and 1 < 1 ;", 0);
        port("moods (1 < 1) < 1 ;", 0);
        port("moods 1 )", fault(1, "moods 1 "));
        port("moods ( 1 ;", fault(1, "moods ( 1 "));
        port("moods ( )", fault(1, "moods ( "));
        port("moods not", fault(1, "moods not"));
        port("moods not and", fault(1, "moods not "));
        port("moods 1x", fault(1, "moods 1"));
        port("moods 1and 2or 3;", 0);
        port("moods 1 ; moods", fault(3, "moods 1 ; "));
        port("moods ((((1)))) + (not (not 1)) ;", 0);
        port("moods (((((1", fault(5, "moods ((((("));
        port("moods ((((((", fault(5, "moods ((((("));
        port("moods (((((not", fault(5, "moods ((((("));
        port("moods (((((beat", fault(5, "moods ((((("));
        port("moods (((((;", fault(1, "moods ((((("));
        port("moods (((((99999", fault(1, "moods ((((("));
        port("moods (((((", fault(1, "moods ((((("));
        port("moods ((((not not", fault(5, "moods ((((not "));
        port("moods not ( not ( not 1", fault(5, "moods not ( not ( not "));
        port("moods not ( not ( 1 ) ) ; person", fault(1, "moods not ( not ( 1 ) ) ; person"));
        port("moods not not not not 1 + not not not not 1 ;", 0);
    }

    /** How many beats more one of 60, right, has behind a QUARTER by this E. */
    private static void mood(String e, int more) {
        WristPort x = Check.with("person a plain beats 60 ; person c calm beats 60 ; moods " + e + " ;");
        x.quarter();
        CHECK.due("moods " + e, x.person(0, 1), 60 + more);
        CHECK.due("calm " + e, x.person(1, 1), 60);
    }

    private static void moodValues() {
        mood("7", 7);
        mood("2 + 3 * 4", 14);
        mood("(2+3)*4", 20);
        mood("10 - 3 - 2", 5);
        mood("10 - (3 - 2)", 9);
        mood("1 or 1 and 0", 0);
        mood("0 and 0 or 1", 1);
        mood("0 or 0", 0);
        mood("7 and 5", 1);
        mood("0 or 9", 1);
        mood("not 0 + 5", 6);
        mood("not 7", 0);
        mood("not not 7", 1);
        mood("3 < 4", 1);
        mood("4 < 4", 0);
        mood("1 + 1 = 4 - 2", 1);
        mood("1 = 2", 0);
        mood("beat = 60", 1);
        mood("beat - 50", 10);
        mood("out + asked + hour", 0);
        mood("0 - 1 < 0", 1);
        mood("20", 20);
        mood("21", 20);
        mood("9999", 20);
        mood("0 - 20", -20);
        mood("0 - 9999", -20);
        // 9999 * 9999 * 22 is 2,199,560,022, which wraps to below 0.
        mood("9999 * 9999 * 21", 20);
        mood("9999 * 9999 * 22", -20);
        mood("9999 * 9999 * 22 < 0", 1);
        hourAndOut();
    }

    private static void hourAndOut() {
        WristPort x = Check.with("person a plain beats 60 ; moods hour ;");
        for (int q = 0; q < 3; q++) {
            x.quarter();
        }
        CHECK.due("ahead of the hour", x.person(0, 1), 60);
        x.quarter();
        CHECK.due("hour 1", x.person(0, 1), 61);
        x = Check.with("person a plain beats 60 ; person b plain beats 60 ; asks a b ; moods asked * 5 ;");
        for (int q = 0; q < 5; q++) {
            x.quarter();
        }
        CHECK.due("asked once, on the hour and behind it", x.person(1, 1), 70);
        CHECK.due("never asked", x.person(0, 1), 60);
        x = Check.with("person a plain beats 60 ; sets a 719 ; moods out ;");
        x.quarter();
        CHECK.due("out is less than 0", x.person(0, 1), 59);
        x = Check.with("person a plain beats 150 ; person b plain beats 30 ; moods beat - 80 ;");
        x.quarter();
        CHECK.due("160 at most", x.person(0, 1), 160);
        CHECK.due("20 at least", x.person(1, 1), 20);
        x = Check.with("person a plain beats 60 ;");
        x.quarter();
        CHECK.due("without moods", x.person(0, 1), 60);
    }

    private static void day(String text, int due) {
        WristPort x = Check.with(TWO);
        CHECK.due("day: " + text, Check.day(x, text), due);
        CHECK.due("taken: " + text, x.count(10), 0);
    }

    private static void days() {
        day("", 0);
        day("ask pp qq ; ask qq pp;fright pp 1;fright qq 60 ;soothe pp 60;soothe qq 1;quarter;", 0);
        day("ask", fault(1, "ask"));
        day("ask old", fault(1, "ask "));
        day("ask x", fault(2, "ask "));
        day("ask pp quarter", fault(1, "ask pp "));
        day("ask pp x", fault(2, "ask pp "));
        day("ask pp pp", fault(3, "ask pp "));
        day("ask pp qq pp", fault(1, "ask pp qq "));
        day("fright x 1", fault(2, "fright "));
        day("fright pp 0", fault(4, "fright pp "));
        day("fright pp 61", fault(4, "fright pp "));
        day("fright pp qq", fault(1, "fright pp "));
        day("soothe pp 0", fault(4, "soothe pp "));
        day("soothe pp 61", fault(4, "soothe pp "));
        day("soothe 1", fault(1, "soothe "));
        day("quarter 1", fault(1, "quarter "));
        day("asks pp qq ;", 1);
        day("person", 1);
        day("moods 1", 1);
        day("; quarter", 1);
        String forty = "quarter;".repeat(40);
        day(forty, 0);
        day(forty + "quarter;", fault(5, forty));
        day(forty + " ask", fault(5, forty + " "));
        day(forty + ";", fault(1, forty));
        day(forty + "person", fault(1, forty));
        WristPort x = new WristPort();
        CHECK.due("a DAY without a PORT", Check.day(x, "quarter ; quarter ;"), 0);
        CHECK.due("its lines", x.count(6), 2);
        CHECK.due("nobody told", Check.day(x, "fright pp 1 ;"), fault(2, "fright "));
        CHECK.due("the lines stay", x.count(6), 2);
        CHECK.due("another DAY", Check.day(x, ""), 0);
        CHECK.due("no line", x.count(6), 0);
    }

    private static void persons() {
        WristPort x = Check.with("person a plain beats 60; person b child beats 61; person c old beats 62;"
                + "person d calm beats 63; sets b 359; sets c 360; sets d 719; asks a d; asks d c;");
        int[][] due = {{0, 60, 0, 0, 0, 3}, {1, 61, 359, 359, 0, -1}, {2, 62, 360, -360, 0, -1}, {3, 63, 719, -1, 0, 2}};
        for (int i = 0; i < 4; i++) {
            for (int what = 0; what < 6; what++) {
                CHECK.due("person " + i + " " + what, x.person(i, what), due[i][what]);
            }
            CHECK.due("no such what", x.person(i, -1), -1000);
            CHECK.due("no such what", x.person(i, 6), -1000);
        }
        CHECK.due("no such person", x.person(4, 0), -1000);
        CHECK.due("no such person", x.person(-1, 0), -1000);
    }

    private static void counts() {
        WristPort x = Check.with("person a plain beats 60; person b plain beats 80; sets a 1;");
        Check.day(x, "quarter;");
        x.ask(0, 1);
        x.quarter();
        x.see(0, 0, 0);
        x.see(0, 0, 1);
        x.tell(1, 0);
        x.feed(0x20L, 0x2020L, 0L);
        int[] due = {2, 1, 15, 140, 1, 2, 1, 2, 1, 2, 3};
        for (int what = 0; what < due.length; what++) {
            CHECK.due("count " + what, x.count(what), due[what]);
        }
        CHECK.due("count -1", x.count(-1), -1);
        CHECK.due("count 11", x.count(11), -1);
        for (int q = 1; q < 48; q++) {
            x.quarter();
        }
        CHECK.due("true time is 0 again", x.count(2), 0);
        CHECK.due("quarters go on", x.count(1), 48);
        CHECK.due("16 at most", x.count(9), 16);
    }
}
