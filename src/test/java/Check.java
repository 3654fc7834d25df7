/** Counts the answers of one test that are not as due, and tells them. */
final class Check {
    private final String test;
    private int calls;
    private int wrong;

    Check(String test) {
        this.test = test;
    }

    void due(String call, long got, long want) {
        calls++;
        if (got != want) {
            wrong++;
            if (wrong <= 40) {
                System.out.println(test + ": " + call + " answered " + got + ", due is " + want);
            }
        }
    }

    void due(String call, boolean got, boolean want) {
        due(call, got ? 1 : 0, want ? 1 : 0);
    }

    /** Ends the test: exit code 1 if an answer was wrong. */
    void end() {
        System.out.println(test + ": " + calls + " answers, " + wrong + " not as due");
        if (wrong != 0 || calls == 0) {
            System.exit(1);
        }
    }

    /** Feeds a text, 24 signs a call: how many there are then. */
    static int feed(WristPort x, String text) {
        int there = x.count(10);
        for (int at = 0; at < text.length(); at += 24) {
            there = x.feed(eight(text, at), eight(text, at + 8), eight(text, at + 16));
        }
        return there;
    }

    static long eight(String text, int from) {
        long bytes = 0;
        for (int i = from; i < from + 8; i++) {
            bytes = bytes << 8 | (i < text.length() ? text.charAt(i) : 0);
        }
        return bytes;
    }

    static int port(WristPort x, String text) {
        feed(x, text);
        return x.port();
    }

    static int day(WristPort x, String text) {
        feed(x, text);
        return x.day();
    }

    /** The FAULT of this kind at the token right behind this text. */
    static int fault(int kind, String before) {
        return kind + 16 * before.length();
    }

    /** On a new object: this text, read as a PORT, answers this, and is taken. */
    void duePort(String text, int want) {
        WristPort x = new WristPort();
        due("port: " + text, port(x, text), want);
        due("taken: " + text, x.count(10), 0);
    }

    /** Behind this PORT: this text, read as a DAY, answers this, and is taken. */
    void dueDay(String told, String text, int want) {
        WristPort x = with(told);
        due("day: " + text, day(x, text), want);
        due("taken: " + text, x.count(10), 0);
    }

    /** A call that must leave all as it was: what all() told ahead of it. */
    void dueSame(String call, WristPort x, String before) {
        String then = all(x);
        calls++;
        if (!then.equals(before)) {
            wrong++;
            System.out.println(test + ": " + call + " changed " + before + " to " + then);
        }
    }

    /** What the object tells of all there is but of MARKS, in one line. */
    static String all(WristPort x) {
        StringBuilder s = new StringBuilder();
        for (int what = 0; what <= 10; what++) {
            s.append(x.count(what)).append(' ');
        }
        for (int i = 0; i < 6; i++) {
            for (int what = 0; what < 6; what++) {
                s.append(x.person(i, what)).append(' ');
            }
        }
        for (int what = 0; what < 3; what++) {
            s.append(x.judged(what)).append(' ').append(x.pairs(what)).append(' ').append(x.fits(what)).append(' ');
        }
        return s.toString();
    }

    static WristPort with(String text) {
        WristPort x = new WristPort();
        if (port(x, text) != 0) {
            throw new IllegalArgumentException(text);
        }
        return x;
    }

    /** So many, all plain of 60 beats, at these times. */
    static WristPort at(int... times) {
        StringBuilder s = new StringBuilder();
        for (int i = 0; i < times.length; i++) {
            char name = (char) ('a' + i);
            s.append("person ").append(name).append(" plain beats 60;sets ").append(name).append(' ');
            s.append(times[i]).append(';');
        }
        return with(s.toString());
    }
}
