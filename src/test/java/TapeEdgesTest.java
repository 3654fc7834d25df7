/** Edges of the TAPE and its TOKENS: section "Terms", promises 2, 3, 4 and count 10. */
public final class TapeEdgesTest {
    private static final Check CHECK = new Check("TapeEdgesTest");
    private static final String LINE = "person a old beats 20;";

    public static void main(String[] args) {
        signs10And32To126();
        bytesOfEachHighestFirst();
        atMost1000Signs();
        whatIsBeyondIsLeftOut();
        aTextOf1000Signs();
        whatReadsItTakesIt();
        lettersAToZ();
        words8AtMost();
        numbers1To4Digits();
        aLetterRightBehindANumber();
        theSigns();
        asLongAsCanBe();
        blanksWhereOneLikes();
        theEndIsAToken();
        nothingOnTheTape();
        CHECK.end();
    }

    /** "10 and 32 .. 126"; "others than 10 and 32 .. 126 .. are left out": each byte at each place. */
    private static void signs10And32To126() {
        for (int sign = 0; sign < 256; sign++) {
            boolean comes = sign == 10 || sign >= 32 && sign <= 126;
            for (int place = 0; place < 24; place++) {
                long bytes = (long) sign << 56 - 8 * (place % 8);
                WristPort x = new WristPort();
                int got = x.feed(place < 8 ? bytes : 0, place / 8 == 1 ? bytes : 0, place >= 16 ? bytes : 0);
                CHECK.due("byte " + sign + " at " + place, got, comes ? 1 : 0);
            }
        }
        WristPort x = new WristPort();
        CHECK.due("9, 11, 31, 127, 128, 255, 0", x.feed(0x090b1f7f80ff0000L, -1L, 0L), 0);
        CHECK.due("10, 32, 126 between them", x.feed(0x090a0b1f207e7f80L, 0L, 0L), 3);
        CHECK.due("less than none is bytes, too", x.feed(Long.MIN_VALUE, -1L, Long.MIN_VALUE + 32), 4);
    }

    /** "the bytes of a, b, c, of each the highest first". */
    private static void bytesOfEachHighestFirst() {
        WristPort x = new WristPort();
        CHECK.due("24", x.feed(0x706572736f6e2061L, 0x20706c61696e2062L, 0x656174732036343bL), 24);
        CHECK.due("person a plain beats 64;", x.port(), 0);
        CHECK.due("64", x.person(0, 1), 64);
        CHECK.due("per", x.feed(0x0070000065000072L, 0L, 0L), 3);
        CHECK.due("son", x.feed(0L, 0x73L, 0x6f6eL), 6);
        CHECK.due("a", x.feed(0x2061200000000000L, 0L, 0L), 9);
        CHECK.due("one WORD, then a NAME, then the end", x.port(), 1 + 16 * 9);
    }

    private static WristPort withBlanks(int many) {
        WristPort x = new WristPort();
        CHECK.due("blanks", Check.feed(x, " ".repeat(many)), many);
        return x;
    }

    /** "The TAPE has at most 1,000 signs". */
    private static void atMost1000Signs() {
        WristPort x = withBlanks(998);
        CHECK.due("999", x.feed(0x20L, 0L, 0L), 999);
        CHECK.due("1,000", x.feed(0x20L, 0L, 0L), 1000);
        CHECK.due("count", x.count(10), 1000);
        CHECK.due("1,001", x.feed(0x20L, 0L, 0L), 1000);
        CHECK.due("and 24", x.feed(0x2020202020202020L, 0x2020202020202020L, 0x2020202020202020L), 1000);
        CHECK.due("and none", x.feed(0L, 0L, 0L), 1000);
        CHECK.due("count", x.count(10), 1000);
        x = withBlanks(976);
        CHECK.due("just full", x.feed(0x2020202020202020L, 0x2020202020202020L, 0x2020202020202020L), 1000);
        x = withBlanks(977);
        CHECK.due("one beyond", x.feed(0x2020202020202020L, 0x2020202020202020L, 0x2020202020202020L), 1000);
        x = withBlanks(999);
        CHECK.due("left out ones fill nothing", x.feed(-1L, 0L, 0x7fL), 999);
        CHECK.due("the last one", x.feed(-1L, 0L, 0x7f7eL), 1000);
    }

    /** "what is beyond 1,000, are left out": the first ones of a feed come yet. */
    private static void whatIsBeyondIsLeftOut() {
        WristPort x = withBlanks(984);
        CHECK.due("16 of 24", Check.feed(x, "person a old beats 20;xx"), 1000);
        CHECK.due("person a old bea", x.port(), 1 + 16 * (984 + 13));
        x = withBlanks(999);
        CHECK.due("one of two", Check.feed(x, ";!"), 1000);
        CHECK.due("that one", x.day(), 1 + 16 * 999);
        x = withBlanks(1000);
        CHECK.due("none of one", Check.feed(x, "!"), 1000);
        CHECK.due("blanks alone", x.day(), 0);
        x = withBlanks(1000);
        x.port();
        CHECK.due("there is room again", Check.feed(x, " ".repeat(1000)), 1000);
        CHECK.due("and no more", Check.feed(x, "!"), 1000);
        CHECK.due("blanks alone", x.port(), 0);
    }

    /** A text as long as can be is read to its last sign. */
    private static void aTextOf1000Signs() {
        String blanks = " ".repeat(1000 - LINE.length());
        WristPort x = new WristPort();
        CHECK.due("1,000", Check.port(x, blanks + LINE), 0);
        CHECK.due("one", x.count(0), 1);
        CHECK.due("1,001: without its ;", Check.port(x, " " + blanks + LINE), 1 + 16 * 1000);
        CHECK.due("the end at 1,000", Check.port(x, LINE + blanks.substring(4) + "sets"), 1 + 16 * 1000);
        CHECK.due("the end at 999", Check.port(x, LINE + blanks.substring(5) + "sets"), 1 + 16 * 999);
        CHECK.due("a token at 999", Check.port(x, LINE + blanks.substring(1) + "!"), 1 + 16 * 999);
        CHECK.due("a WORD to the end", Check.port(x, blanks.substring(1) + LINE + "a"), 1 + 16 * 999);
        CHECK.due("a NUMBER to the end", Check.port(x, blanks.substring(1) + LINE + "1"), 1 + 16 * 999);
        CHECK.due("1,000 digits", Check.port(x, "1".repeat(1000)), 1);
        CHECK.due("1,000 letters", Check.port(x, "a".repeat(1000)), 1);
        CHECK.due("1,000 signs", Check.day(x, ";".repeat(1000)), 1);
        CHECK.due("that PORT yet", x.count(0), 1);
    }

    /** "what reads it takes it: it is empty then". */
    private static void whatReadsItTakesIt() {
        WristPort x = new WristPort();
        CHECK.due("a PORT", Check.port(x, LINE), 0);
        CHECK.due("empty", x.count(10), 0);
        CHECK.due("a FAULT of a PORT", Check.port(x, "asks b"), Check.fault(2, "asks "));
        CHECK.due("empty", x.count(10), 0);
        CHECK.due("a DAY", Check.day(x, "fright a 1;"), 0);
        CHECK.due("empty", x.count(10), 0);
        CHECK.due("a FAULT of a DAY", Check.day(x, "ask a b"), Check.fault(2, "ask a "));
        CHECK.due("empty", x.count(10), 0);
        CHECK.due("places are from 0 again", Check.day(x, "ask a b"), Check.fault(2, "ask a "));
        CHECK.due("one sign", x.feed(0x21L, 0L, 0L), 1);
        CHECK.due("that sign", x.day(), 1);
        x = new WristPort();
        CHECK.due("in two feeds", Check.feed(x, "per"), 3);
        CHECK.due("come behind", Check.feed(x, "son a old beats 20;"), LINE.length());
        x.quarter();
        x.undo();
        x.judged(0);
        CHECK.due("other calls leave it", x.count(10), LINE.length());
        CHECK.due("as one", x.port(), 0);
    }

    /** "letters a .. z": what stands within a WORD. */
    private static void lettersAToZ() {
        for (char sign = 33; sign <= 126; sign++) {
            boolean letter = sign >= 'a' && sign <= 'z';
            String text = "person a" + sign + "b old beats 20;";
            CHECK.duePort(text, letter ? 0 : Check.fault(1, "person a"));
        }
        CHECK.duePort("person a b old beats 20;", Check.fault(1, "person a "));
        CHECK.duePort("person a\nb old beats 20;", Check.fault(1, "person a "));
        CHECK.duePort("person a old beats 20;asks A", Check.fault(1, LINE + "asks "));
        CHECK.duePort("PERSON", 1);
    }

    /** "WORDS (letters a .. z, 8 at most)"; "a longer WORD .. at its first sign .. is none". */
    private static void words8AtMost() {
        CHECK.duePort("person z old beats 20;asks z", Check.fault(1, "person z old beats 20;asks z"));
        CHECK.duePort("person abcdefg old beats 20;", 0);
        CHECK.duePort("person abcdefgh old beats 20;", 0);
        CHECK.duePort("person abcdefghi old beats 20;", Check.fault(1, "person "));
        CHECK.duePort("person zzzzzzzz old beats 20;person zzzzzzzy old beats 20;", 0);
        String told = "person abcdefgh old beats 20;";
        CHECK.duePort(told + "sets abcdefgh 1;", 0);
        CHECK.duePort(told + "sets abcdefg 1;", Check.fault(2, told + "sets "));
        CHECK.duePort(told + "sets abcdefghi 1;", Check.fault(1, told + "sets "));
        CHECK.duePort(told + "sets bbcdefgh 1;", Check.fault(2, told + "sets "));
        CHECK.duePort(told + "sets abcdefgi 1;", Check.fault(2, told + "sets "));
        CHECK.duePort("personab", 1);
        CHECK.duePort("personabc", 1);
        CHECK.duePort("person a oldoldold", Check.fault(1, "person a "));
        CHECK.duePort(told + "abcdefghi", Check.fault(1, told));
        CHECK.duePort("moods beatbeatb", Check.fault(1, "moods "));
        CHECK.dueDay(told, "fright abcdefghi 1", Check.fault(1, "fright "));
        CHECK.dueDay(told, "fright abcdefgi 1", Check.fault(2, "fright "));
        CHECK.dueDay(told, "quarterrr;", 1);
        // A hundred letters are as little a NAME as nine.
        CHECK.duePort(told + "sets " + "abcdefgh".repeat(13), Check.fault(1, told + "sets "));
    }

    /** "NUMBERS (1 to 4 digits)"; "a longer .. NUMBER .. at its first sign .. is none". */
    private static void numbers1To4Digits() {
        CHECK.duePort("moods 0;", 0);
        CHECK.duePort("moods 9999;", 0);
        CHECK.duePort("moods 0000;", 0);
        CHECK.duePort("moods 00000;", Check.fault(1, "moods "));
        CHECK.duePort("moods 10000;", Check.fault(1, "moods "));
        CHECK.duePort("person a old beats 0020;", 0);
        CHECK.duePort("person a old beats 00020;", Check.fault(1, "person a old beats "));
        CHECK.duePort("person a old beats 0019;", Check.fault(4, "person a old beats "));
        CHECK.duePort("person a old beats 9999;", Check.fault(4, "person a old beats "));
        CHECK.duePort("person a old beats 10000;", Check.fault(1, "person a old beats "));
        CHECK.duePort(LINE + "sets a 0719;", 0);
        CHECK.duePort(LINE + "sets a 00719;", Check.fault(1, LINE + "sets a "));
        CHECK.duePort(LINE + "sets a 0720;", Check.fault(4, LINE + "sets a "));
        CHECK.dueDay(LINE, "fright a 0060;", 0);
        CHECK.dueDay(LINE, "fright a 00060;", Check.fault(1, "fright a "));
        CHECK.dueDay(LINE, "soothe a 0001;", 0);
        CHECK.dueDay(LINE, "soothe a 00001;", Check.fault(1, "soothe a "));
        // 2 ^ 32 + 60 would wrap to 60, 2 ^ 64 + 60 as well.
        CHECK.duePort("person a old beats 4294967356;", Check.fault(1, "person a old beats "));
        CHECK.dueDay(LINE, "fright a 4294967356;", Check.fault(1, "fright a "));
        CHECK.dueDay(LINE, "fright a 18446744073709551676;", Check.fault(1, "fright a "));
        for (char sign = 33; sign <= 126; sign++) {
            boolean digit = sign >= '0' && sign <= '9';
            if (sign != ';') {
                CHECK.duePort("person a old beats 20" + sign,
                        digit ? Check.fault(4, "person a old beats ") : Check.fault(1, "person a old beats 20"));
            }
        }
    }

    /** "a letter may stand right behind". */
    private static void aLetterRightBehindANumber() {
        CHECK.duePort("moods 1and 2or 3;", 0);
        CHECK.duePort("moods 9999and 1;", 0);
        CHECK.duePort("moods 1a;", Check.fault(1, "moods 1"));
        CHECK.duePort("moods 12345and 1;", Check.fault(1, "moods "));
        CHECK.duePort("person a old beats20;", 0);
        CHECK.duePort("person a old beats 20sets", Check.fault(1, "person a old beats 20"));
        CHECK.duePort("person a1 old beats 20;", Check.fault(1, "person a"));
        CHECK.dueDay(LINE, "fright a1;", 0);
    }

    /** "the signs ( ) < = + - * ;  All else .. is none": each sign between two NUMBERS. */
    private static void theSigns() {
        for (char sign = 33; sign <= 126; sign++) {
            boolean joins = "<=+-*".indexOf(sign) >= 0;
            boolean digit = sign >= '0' && sign <= '9';
            int due = joins || digit ? 0 : sign == ';' ? Check.fault(1, "moods 1;") : Check.fault(1, "moods 1");
            CHECK.duePort("moods 1" + sign + "1;", due);
            if ("(".indexOf(sign) < 0 && !digit) {
                CHECK.duePort("moods " + sign + "1", Check.fault(1, "moods "));
            }
        }
        CHECK.duePort("moods (1);", 0);
        CHECK.duePort("moods [1];", Check.fault(1, "moods "));
    }

    /** "TOKENS, each as long as can be". */
    private static void asLongAsCanBe() {
        CHECK.duePort("persona old beats 20;", 1);
        CHECK.duePort("person a oldbeats 20;", Check.fault(1, "person a "));
        CHECK.duePort("person a old beats 2 0;", Check.fault(4, "person a old beats "));
        CHECK.duePort(LINE + "asksa", Check.fault(1, LINE));
        CHECK.duePort("moods not1;", 0);
        CHECK.duePort("moods nothour;", Check.fault(1, "moods "));
        CHECK.duePort("moods hourand 1;", Check.fault(1, "moods "));
        CHECK.duePort("moods 1 <= 2;", Check.fault(1, "moods 1 <"));
        CHECK.dueDay(LINE, "asks a a;", 1);
        CHECK.dueDay(LINE, "quarters;", 1);
        CHECK.dueDay(LINE, "frighta 1;", 1);
    }

    /** "blanks (10, 32) between where one likes". */
    private static void blanksWhereOneLikes() {
        CHECK.duePort(" \n person\na\n\nold  beats\n20\n;\n", 0);
        CHECK.duePort("\n", 0);
        CHECK.duePort("person a old beats20;asks", Check.fault(1, "person a old beats20;asks"));
        CHECK.duePort("moods(1+2)*3<4and(not(5));", 0);
        CHECK.duePort("moods 1 \n + \n 1 \n ;", 0);
        CHECK.duePort("moods 1 \n ! ;", Check.fault(1, "moods 1 \n "));
        CHECK.dueDay(LINE, "\nfright a5;soothe a6 ;quarter\n;quarter;", 0);
    }

    /** "the end being one at the text's length": blanks behind are of the text. */
    private static void theEndIsAToken() {
        CHECK.duePort("sets", 1 + 16 * 4);
        CHECK.duePort("sets ", 1 + 16 * 5);
        CHECK.duePort("sets \n\n", 1 + 16 * 7);
        CHECK.duePort("moods 1", 1 + 16 * 7);
        CHECK.duePort("moods 1  ", 1 + 16 * 9);
        CHECK.dueDay(LINE, "quarter", 1 + 16 * 7);
        CHECK.dueDay(LINE, "quarter  ", 1 + 16 * 9);
        CHECK.dueDay(LINE, "fright a 1", 1 + 16 * 10);
        WristPort x = new WristPort();
        x.feed(0x73657473ff000102L, 0x7f20L, 0L);
        CHECK.due("signs that were left out are not of the text", x.port(), 1 + 16 * 5);
    }

    /** An empty TAPE tells no line: a PORT of nobody, a DAY of none. */
    private static void nothingOnTheTape() {
        WristPort x = new WristPort();
        CHECK.due("none", x.feed(0L, 0L, 0L), 0);
        CHECK.due("a PORT", x.port(), 0);
        CHECK.due("a DAY", x.day(), 0);
        for (int what = 0; what <= 10; what++) {
            CHECK.due("nothing " + what, x.count(what), 0);
        }
        Check.port(x, LINE);
        Check.day(x, "quarter;");
        CHECK.due("a DAY of none", x.day(), 0);
        CHECK.due("no line", x.count(6), 0);
        CHECK.due("one yet", x.count(0), 1);
        CHECK.due("a PORT of nobody", x.port(), 0);
        CHECK.due("nobody", x.count(0), 0);
    }
}
