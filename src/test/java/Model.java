import java.util.ArrayList;
import java.util.Arrays;
import java.util.Collections;
import java.util.HashMap;
import java.util.List;
import java.util.Map;
import java.util.TreeMap;
import java.util.TreeSet;
import java.util.function.ToIntFunction;

/**
 * The document a second time, in another way: slow, with lists, maps and new objects everywhere.
 * RandomRunsTest holds the class against it. It is by the same hand as the class and shares its
 * readings of the document, so it shows slips, not misreadings.
 */
final class Model {
    private static final List<String> KINDS = List.of("plain", "child", "old", "calm");
    private static final List<String> NO_NAMES = List.of("person", "beats", "asks", "sets", "moods", "ask",
            "fright", "soothe", "quarter", "plain", "child", "old", "calm", "not", "and", "or");

    /** One PERSON at one time. */
    static final class Who implements Cloneable {
        String name;
        String kind;
        int beats;
        int time;
        int asked;
        String asks;

        Who copy() {
            Who other = new Who();
            other.name = name;
            other.kind = kind;
            other.beats = beats;
            other.time = time;
            other.asked = asked;
            other.asks = asks;
            return other;
        }
    }

    /** The facts of E. */
    record Facts(int beat, int out, int asked, int hour) {
    }

    /** All PERSONS at one time. */
    static final class World {
        final List<Who> all = new ArrayList<>();
        ToIntFunction<Facts> moods = f -> 0;
        int quarters;

        World copy() {
            World other = new World();
            for (Who w : all) {
                other.all.add(w.copy());
            }
            other.moods = moods;
            other.quarters = quarters;
            return other;
        }

        int index(String name) {
            for (int i = 0; i < all.size(); i++) {
                if (all.get(i).name.equals(name)) {
                    return i;
                }
            }
            return -1;
        }

        int truth() {
            return quarters % 48 * 15;
        }

        int out(int i) {
            int d = all.get(i).time - truth();
            while (d < -360) {
                d += 720;
            }
            while (d > 359) {
                d -= 720;
            }
            return d;
        }

        List<Integer> outs() {
            List<Integer> row = new ArrayList<>();
            for (int i = 0; i < all.size(); i++) {
                row.add(out(i));
            }
            return row;
        }

        void ask(int a, int b) {
            all.get(a).time = all.get(b).time;
            all.get(b).asked++;
        }

        void move(int i, int by) {
            Who w = all.get(i);
            w.beats += by;
            if (w.beats > 160) {
                w.beats = 160;
            }
            if (w.beats < 20) {
                w.beats = 20;
            }
        }

        /** Who went past noon. */
        List<Integer> quarter() {
            List<Integer> noon = new ArrayList<>();
            for (int i = 0; i < all.size(); i++) {
                Who w = all.get(i);
                int step = (w.beats - w.beats % 4) / 4;
                step += w.kind.equals("child") ? 2 : w.kind.equals("old") ? -2 : 0;
                for (int minute = 0; minute < step; minute++) {
                    w.time = w.time == 719 ? 0 : w.time + 1;
                    if (w.time == 0) {
                        noon.add(i);
                    }
                }
            }
            quarters++;
            if (quarters % 4 == 0) {
                for (int i = 0; i < all.size(); i++) {
                    if (all.get(i).asks != null) {
                        ask(i, index(all.get(i).asks));
                    }
                }
            }
            for (int i = 0; i < all.size(); i++) {
                Who w = all.get(i);
                if (!w.kind.equals("calm")) {
                    int more = moods.applyAsInt(new Facts(w.beats, out(i), w.asked, truth() / 60));
                    move(i, more > 20 ? 20 : more < -20 ? -20 : more);
                }
            }
            return noon;
        }

        World after(int n) {
            World w = copy();
            for (int i = 0; i < n; i++) {
                w.quarter();
            }
            return w;
        }

        int worst() {
            int far = 0;
            for (int o : outs()) {
                far = Math.max(far, Math.abs(o));
            }
            return far;
        }

        int asked() {
            return all.stream().mapToInt(w -> w.asked).sum();
        }

        int beats() {
            return all.stream().mapToInt(w -> w.beats).sum();
        }

        int spread() {
            return all.isEmpty() ? 0 : Collections.max(outs()) - Collections.min(outs());
        }
    }

    // ---- reading ----

    private static final class Fault extends Exception {
        private static final long serialVersionUID = 1L;
        final int number;

        Fault(int kind, int place) {
            super("", null, false, false);
            number = kind + 16 * place;
        }
    }

    /** A token: kind w word, n number, s sign, x none, e end. */
    record Token(char kind, String text, int place) {
        boolean is(String other) {
            return kind != 'x' && text.equals(other);
        }

        boolean name() {
            return kind == 'w' && !NO_NAMES.contains(text);
        }
    }

    private static List<Token> tokens(String text) {
        List<Token> row = new ArrayList<>();
        java.util.regex.Matcher m = java.util.regex.Pattern.compile("[a-z]+|[0-9]+|[^\n ]").matcher(text);
        while (m.find()) {
            String s = m.group();
            char kind = 'x';
            if (s.matches("[a-z]{1,8}")) {
                kind = 'w';
            } else if (s.matches("[0-9]{1,4}")) {
                kind = 'n';
            } else if (s.matches("[-()<=+*;]")) {
                kind = 's';
            }
            row.add(new Token(kind, s, m.start()));
        }
        row.add(new Token('e', "", text.length()));
        return row;
    }

    private List<Token> row;
    private int at;

    private Token peek() {
        return row.get(at);
    }

    private Token next() {
        Token t = row.get(at);
        if (t.kind() != 'e') {
            at++;
        }
        return t;
    }

    private void want(String text) throws Fault {
        Token t = next();
        if (t.kind() == 'e' || !t.is(text)) {
            throw new Fault(1, t.place());
        }
    }

    private int number(int least, int most) throws Fault {
        Token t = next();
        if (t.kind() != 'n') {
            throw new Fault(1, t.place());
        }
        int n = Integer.parseInt(t.text());
        if (n < least || n > most) {
            throw new Fault(4, t.place());
        }
        return n;
    }

    private int known(World w) throws Fault {
        Token t = next();
        if (!t.name()) {
            throw new Fault(1, t.place());
        }
        if (w.index(t.text()) < 0) {
            throw new Fault(2, t.place());
        }
        return w.index(t.text());
    }

    private int lastPlace() {
        return row.get(at - 1).place();
    }

    private World readPort(String text) throws Fault {
        row = tokens(text);
        at = 0;
        World w = new World();
        List<Integer> set = new ArrayList<>();
        boolean moods = false;
        while (peek().kind() != 'e') {
            Token t = next();
            if (t.is("person")) {
                if (w.all.size() == 6) {
                    throw new Fault(5, t.place());
                }
                Token name = next();
                if (!name.name()) {
                    throw new Fault(1, name.place());
                }
                if (w.index(name.text()) >= 0) {
                    throw new Fault(3, name.place());
                }
                Token kind = next();
                if (!KINDS.contains(kind.text())) {
                    throw new Fault(1, kind.place());
                }
                want("beats");
                Who who = new Who();
                who.name = name.text();
                who.kind = kind.text();
                who.beats = number(20, 160);
                w.all.add(who);
            } else if (t.is("asks")) {
                int a = known(w);
                if (w.all.get(a).asks != null) {
                    throw new Fault(3, lastPlace());
                }
                int b = known(w);
                if (a == b) {
                    throw new Fault(3, lastPlace());
                }
                w.all.get(a).asks = w.all.get(b).name;
            } else if (t.is("sets")) {
                int a = known(w);
                if (set.contains(a)) {
                    throw new Fault(3, lastPlace());
                }
                set.add(a);
                w.all.get(a).time = number(0, 719);
            } else if (t.is("moods")) {
                if (moods) {
                    throw new Fault(3, t.place());
                }
                moods = true;
                w.moods = tests(0);
            } else {
                throw new Fault(1, t.place());
            }
            want(";");
        }
        return w;
    }

    private static int bool(boolean b) {
        return b ? 1 : 0;
    }

    private ToIntFunction<Facts> tests(int depth) throws Fault {
        ToIntFunction<Facts> left = test(depth);
        while (peek().is("and") || peek().is("or")) {
            boolean and = next().is("and");
            ToIntFunction<Facts> l = left;
            ToIntFunction<Facts> r = test(depth);
            left = and ? f -> bool(l.applyAsInt(f) != 0 & r.applyAsInt(f) != 0)
                    : f -> bool(l.applyAsInt(f) != 0 | r.applyAsInt(f) != 0);
        }
        return left;
    }

    private ToIntFunction<Facts> test(int depth) throws Fault {
        ToIntFunction<Facts> l = sum(depth);
        if (peek().is("<")) {
            next();
            ToIntFunction<Facts> r = sum(depth);
            return f -> bool(l.applyAsInt(f) < r.applyAsInt(f));
        }
        if (peek().is("=")) {
            next();
            ToIntFunction<Facts> r = sum(depth);
            return f -> bool(l.applyAsInt(f) == r.applyAsInt(f));
        }
        return l;
    }

    private ToIntFunction<Facts> sum(int depth) throws Fault {
        ToIntFunction<Facts> left = product(depth);
        while (peek().is("+") || peek().is("-")) {
            int sign = next().is("+") ? 1 : -1;
            ToIntFunction<Facts> l = left;
            ToIntFunction<Facts> r = product(depth);
            left = f -> l.applyAsInt(f) + sign * r.applyAsInt(f);
        }
        return left;
    }

    private ToIntFunction<Facts> product(int depth) throws Fault {
        ToIntFunction<Facts> left = part(depth);
        while (peek().is("*")) {
            next();
            ToIntFunction<Facts> l = left;
            ToIntFunction<Facts> r = part(depth);
            left = f -> l.applyAsInt(f) * r.applyAsInt(f);
        }
        return left;
    }

    private ToIntFunction<Facts> part(int depth) throws Fault {
        Token t = next();
        boolean can = t.kind() == 'n' || t.is("beat") || t.is("out") || t.is("asked") || t.is("hour")
                || t.is("not") || t.is("(");
        if (!can) {
            throw new Fault(1, t.place());
        }
        if (depth == 5) {
            throw new Fault(5, t.place());
        }
        if (t.kind() == 'n') {
            int n = Integer.parseInt(t.text());
            return f -> n;
        }
        switch (t.text()) {
            case "beat":
                return Facts::beat;
            case "out":
                return Facts::out;
            case "asked":
                return Facts::asked;
            case "hour":
                return Facts::hour;
            case "not":
                ToIntFunction<Facts> p = part(depth + 1);
                return f -> bool(p.applyAsInt(f) == 0);
            default:
                ToIntFunction<Facts> e = tests(depth + 1);
                want(")");
                return e;
        }
    }

    private List<int[]> readDay(String text, World w) throws Fault {
        row = tokens(text);
        at = 0;
        List<int[]> lines = new ArrayList<>();
        while (peek().kind() != 'e') {
            Token t = next();
            int what = t.kind() == 'w' ? List.of("ask", "fright", "soothe", "quarter").indexOf(t.text()) : -1;
            if (what < 0) {
                throw new Fault(1, t.place());
            }
            if (lines.size() == 40) {
                throw new Fault(5, t.place());
            }
            int a = 0;
            int b = 0;
            if (what == 0) {
                a = known(w);
                b = known(w);
                if (a == b) {
                    throw new Fault(3, lastPlace());
                }
            } else if (what < 3) {
                a = known(w);
                b = number(1, 60);
            }
            want(";");
            lines.add(new int[] {what, a, b});
        }
        return lines;
    }

    // ---- the object ----

    private final StringBuilder tape = new StringBuilder();
    private World begin = new World();
    private World now = new World();
    private List<int[]> day = new ArrayList<>();
    private List<int[]> seen = new ArrayList<>();
    private List<int[]> told = new ArrayList<>();
    private final List<World> past = new ArrayList<>();
    private final Map<Integer, Object[]> marks = new HashMap<>();

    int feed(long a, long b, long c) {
        for (long x : new long[] {a, b, c}) {
            for (int i = 7; i >= 0; i--) {
                int s = (int) (x >> 8 * i & 0xff);
                if ((s == 10 || s > 31 && s < 127) && tape.length() < 1000) {
                    tape.append((char) s);
                }
            }
        }
        return tape.length();
    }

    private String take() {
        String s = tape.toString();
        tape.setLength(0);
        return s;
    }

    int port() {
        try {
            begin = readPort(take());
        } catch (Fault f) {
            return f.number;
        }
        now = begin.copy();
        day = new ArrayList<>();
        seen = new ArrayList<>();
        told = new ArrayList<>();
        past.clear();
        marks.clear();
        return 0;
    }

    int day() {
        try {
            day = readDay(take(), begin);
        } catch (Fault f) {
            return f.number;
        }
        return 0;
    }

    private int n() {
        return now.all.size();
    }

    private boolean in(int p) {
        return 0 <= p && p < n();
    }

    private boolean two(int p, int q) {
        return in(p) && in(q) && p != q;
    }

    int person(int p, int what) {
        if (!in(p) || what < 0 || what > 5) {
            return -1000;
        }
        Who w = now.all.get(p);
        return List.of(KINDS.indexOf(w.kind), w.beats, w.time, now.out(p), w.asked, now.index("" + w.asks)).get(what);
    }

    private void keep() {
        past.add(now.copy());
        if (past.size() > 16) {
            past.remove(0);
        }
    }

    int ask(int p, int o) {
        if (!two(p, o)) {
            return -1;
        }
        keep();
        now.ask(p, o);
        return now.all.get(p).time;
    }

    int fright(int p, int more) {
        if (!in(p) || more < 1 || more > 60) {
            return -1;
        }
        keep();
        now.move(p, more);
        return now.all.get(p).beats;
    }

    int soothe(int p, int less) {
        if (!in(p) || less < 1 || less > 60) {
            return -1;
        }
        keep();
        now.move(p, -less);
        return now.all.get(p).beats;
    }

    int quarter() {
        keep();
        now.quarter();
        return now.truth();
    }

    boolean undo() {
        if (past.isEmpty()) {
            return false;
        }
        now = past.remove(past.size() - 1);
        return true;
    }

    int judged(int what) {
        World w = begin.copy();
        int line = -1;
        for (int i = 0; i < day.size(); i++) {
            int[] l = day.get(i);
            switch (l[0]) {
                case 0 -> w.ask(l[1], l[2]);
                case 1 -> w.move(l[1], l[2]);
                case 2 -> w.move(l[1], -l[2]);
                default -> w.quarter();
            }
            if (line < 0 && w.worst() >= 60) {
                line = i;
            }
        }
        return what == 0 ? line : what == 1 ? w.worst() : what == 2 ? w.asked() : -2;
    }

    int later(int p, int q) {
        return in(p) && q >= 0 && q <= 96 ? now.after(q).out(p) : -1000;
    }

    int worst() {
        for (int i = 0; i < n(); i++) {
            if (Math.abs(now.out(i)) == now.worst()) {
                return i;
            }
        }
        return -1;
    }

    int middle() {
        List<Integer> outs = now.outs();
        Collections.sort(outs);
        return outs.isEmpty() ? -1000 : outs.get(outs.size() / 2);
    }

    int noon(int p) {
        World w = now.copy();
        for (int q = 1; in(p) && q <= 96; q++) {
            if (w.quarter().contains(p)) {
                return q;
            }
        }
        return -1;
    }

    int first() {
        int best = -1;
        for (int i = 0; i < n(); i++) {
            if (noon(i) > 0 && (best < 0 || noon(i) < noon(best))) {
                best = i;
            }
        }
        return best;
    }

    int meet(int p, int o) {
        for (int q = 0; two(p, o) && q <= 96; q++) {
            World w = now.after(q);
            if (w.all.get(p).time == w.all.get(o).time) {
                return q;
            }
        }
        return -1;
    }

    int ordered(int i) {
        List<Integer> who = new ArrayList<>();
        for (int k = 0; k < n(); k++) {
            who.add(k);
        }
        who.sort((a, b) -> now.out(b) - now.out(a));
        return i >= 0 && i < n() ? who.get(i) : -1;
    }

    private void rows(List<Integer> row, int p, List<List<Integer>> all) {
        if (row.size() == n() - 1) {
            all.add(new ArrayList<>(row));
        }
        for (int i = 0; i < n(); i++) {
            if (i != p && !row.contains(i)) {
                row.add(i);
                rows(row, p, all);
                row.remove(row.size() - 1);
            }
        }
    }

    int round(int p, int what) {
        if (!in(p)) {
            return -2;
        }
        List<List<Integer>> all = new ArrayList<>();
        rows(new ArrayList<>(), p, all);
        List<Integer> best = null;
        int least = Integer.MAX_VALUE;
        for (List<Integer> one : all) {
            World w = now.copy();
            for (int i : one) {
                w.ask(i, p);
                w.quarter();
            }
            int sum = w.outs().stream().mapToInt(Math::abs).sum();
            if (sum < least) {
                least = sum;
                best = one;
            }
        }
        return what == -1 ? least : what >= 0 && what < best.size() ? best.get(what) : -2;
    }

    /** If no two of these have OUTS farther apart; the row tells by three bits each whose time one has. */
    private boolean allNear(int row, int minutes) {
        for (int i = 0; i < n(); i++) {
            for (int j = 0; j < i; j++) {
                if (Math.abs(now.out(row >> 3 * i & 7) - now.out(row >> 3 * j & 7)) > minutes) {
                    return false;
                }
            }
        }
        return true;
    }

    /** All rows that one ASK more can make of these, with who has asked (bits from 18 on). */
    private TreeSet<Integer> oneAskMore(TreeSet<Integer> rows) {
        TreeSet<Integer> more = new TreeSet<>();
        for (int row : rows) {
            for (int a = 0; a < n(); a++) {
                for (int b = 0; b < n(); b++) {
                    if (a != b) {
                        int whose = row >> 3 * b & 7;
                        more.add(row & ~(7 << 3 * a) | whose << 3 * a | 1 << 18 + a);
                    }
                }
            }
        }
        return more;
    }

    /** By trying every row of ASKS, fewer ones first: nothing is taken for granted of who should ask whom. */
    int askings(int minutes) {
        if (minutes < 0 || minutes > 60) {
            return -1;
        }
        int start = 0;
        for (int i = 0; i < n(); i++) {
            start |= i << 3 * i;
        }
        TreeSet<Integer> rows = new TreeSet<>(List.of(start));
        for (int many = 0; many <= n(); many++) {
            for (int row : rows) {
                // Who has asked stands in the highest bits: the first that is met is the least set.
                if (allNear(row, minutes)) {
                    return row >> 18;
                }
            }
            rows = oneAskMore(rows);
        }
        throw new IllegalStateException();
    }

    int train(int p, int q) {
        if (!in(p) || q < 1 || q > 96) {
            return -1;
        }
        int o = now.after(q).out(p);
        return o < 0 ? -o : 0;
    }

    int missed(int q) {
        if (q < 1 || q > 96) {
            return -1;
        }
        int bits = 0;
        for (int i = 0; i < n(); i++) {
            bits += train(i, q) > 0 ? 1 << i : 0;
        }
        return bits;
    }

    boolean see(int p, int q, int out) {
        if (!in(p) || q < 0 || q > 24 || out < -360 || out > 359 || seen.size() == 6) {
            return false;
        }
        seen.add(new int[] {p, q, out});
        return true;
    }

    private List<int[]> pairList() {
        List<int[]> good = new ArrayList<>();
        for (int a = 0; a < n(); a++) {
            for (int b = 0; b < n(); b++) {
                if (a != b) {
                    World w = now.copy();
                    w.ask(a, b);
                    if (seen.stream().allMatch(s -> w.after(s[1]).out(s[0]) == s[2])) {
                        good.add(new int[] {a, b});
                    }
                }
            }
        }
        return good;
    }

    int pairs(int what) {
        List<int[]> good = pairList();
        if (what == 0) {
            return good.size();
        }
        int bits = 0;
        for (int[] p : good) {
            bits |= what == 1 || what == 2 ? 1 << p[what - 1] : 0;
        }
        return what == 1 || what == 2 ? bits : -1;
    }

    private static int greatest(List<Integer> row) {
        int most = 0;
        for (int x : row) {
            most = Math.max(most, Collections.frequency(row, x));
        }
        return most;
    }

    int look(int p) {
        if (!in(p)) {
            return -1;
        }
        List<int[]> good = pairList();
        int best = -1;
        int least = good.size();
        for (int q = 0; q <= 24; q++) {
            List<Integer> outs = new ArrayList<>();
            for (int[] g : good) {
                World w = now.copy();
                w.ask(g[0], g[1]);
                outs.add(w.after(q).out(p));
            }
            if (greatest(outs) < least) {
                least = greatest(outs);
                best = q;
            }
        }
        return best;
    }

    boolean tell(int q, int out) {
        if (q < 1 || q > 40 || out < -360 || out > 359 || told.size() == 6) {
            return false;
        }
        told.add(new int[] {q, out});
        return true;
    }

    private static int loner(int beats, int q) {
        World w = new World();
        Who one = new Who();
        one.name = "one";
        one.kind = "plain";
        one.beats = beats;
        w.all.add(one);
        return w.after(q).out(0);
    }

    private List<Integer> beatsList() {
        List<Integer> good = new ArrayList<>();
        for (int beats = 20; beats <= 160; beats++) {
            int b = beats;
            if (told.stream().allMatch(t -> loner(b, t[0]) == t[1])) {
                good.add(b);
            }
        }
        return good;
    }

    int fits(int what) {
        List<Integer> good = beatsList();
        if (what == 0) {
            return good.size();
        }
        if (good.isEmpty() || what != 1 && what != 2) {
            return -1;
        }
        return what == 1 ? good.get(0) : good.get(good.size() - 1);
    }

    int when() {
        List<Integer> good = beatsList();
        int best = -1;
        int least = good.size();
        for (int q = 1; q <= 40; q++) {
            List<Integer> outs = new ArrayList<>();
            for (int b : good) {
                outs.add(loner(b, q));
            }
            if (greatest(outs) < least) {
                least = greatest(outs);
                best = q;
            }
        }
        return best;
    }

    int comes(int p) {
        if (!in(p)) {
            return -1;
        }
        int bits = 0;
        for (int turn = 0; turn < 10; turn++) {
            for (int i = 0; i < n(); i++) {
                int asked = now.index("" + now.all.get(i).asks);
                if (asked >= 0 && (asked == p || (bits & 1 << asked) != 0)) {
                    bits |= 1 << i;
                }
            }
        }
        return bits;
    }

    int rings() {
        int bits = 0;
        for (int i = 0; i < n(); i++) {
            bits |= comes(i) & 1 << i;
        }
        return bits;
    }

    int calm() {
        int best = -1;
        for (int i = n() - 1; i >= 0; i--) {
            if (best < 0 || now.all.get(i).beats <= now.all.get(best).beats) {
                best = i;
            }
        }
        return best;
    }

    int drift(int p, int q) {
        return in(p) && q >= 1 && q <= 96 ? Math.abs(now.after(q).out(p)) - Math.abs(now.out(p)) : -1000;
    }

    int near(int minutes) {
        if (minutes < 0 || minutes > 60) {
            return -1;
        }
        int many = 0;
        for (int a = 0; a < n(); a++) {
            for (int b = a + 1; b < n(); b++) {
                int d = now.out(a) - now.out(b);
                many += d <= minutes && d >= -minutes ? 1 : 0;
            }
        }
        return many;
    }

    int spread() {
        return now.spread();
    }

    int right(int p) {
        for (int q = 0; in(p) && q <= 96; q++) {
            if (now.after(q).out(p) == 0) {
                return q;
            }
        }
        return -1;
    }

    int steady() {
        World w = now.after(1);
        int best = -1;
        int least = 9999;
        for (int i = 0; i < n(); i++) {
            if (Math.abs(w.out(i) - now.out(i)) < least) {
                least = Math.abs(w.out(i) - now.out(i));
                best = i;
            }
        }
        return best;
    }

    int passes(int p, int o, int q) {
        if (!two(p, o) || q < 1 || q > 96) {
            return -1;
        }
        int many = 0;
        for (int i = 1; i <= q; i++) {
            World a = now.after(i - 1);
            World b = now.after(i);
            many += Integer.signum(a.out(p) - a.out(o)) == Integer.signum(b.out(p) - b.out(o)) ? 0 : 1;
        }
        return many;
    }

    int hub() {
        int[] many = new int[n()];
        for (Who w : now.all) {
            if (w.asks != null) {
                many[now.index(w.asks)]++;
            }
        }
        int most = Arrays.stream(many).max().orElse(0);
        for (int i = 0; i < n(); i++) {
            if (most > 0 && many[i] == most) {
                return i;
            }
        }
        return -1;
    }

    int teacher(int p) {
        if (!in(p)) {
            return -1;
        }
        int best = -1;
        int least = Math.abs(now.after(24).out(p));
        for (int o = 0; o < n(); o++) {
            if (o != p) {
                World w = now.copy();
                w.ask(p, o);
                int far = Math.abs(w.after(24).out(p));
                if (far < least) {
                    least = far;
                    best = o;
                }
            }
        }
        return best;
    }

    int together() {
        int best = 0;
        for (int q = 1; q <= 96; q++) {
            if (now.after(q).spread() < now.after(best).spread()) {
                best = q;
            }
        }
        return best;
    }

    int cure(int p) {
        if (!in(p)) {
            return -1000;
        }
        TreeMap<Integer, Integer> byRank = new TreeMap<>();
        for (int by = 60; by >= -60; by--) {
            World w = now.copy();
            if (by != 0) {
                w.move(p, by);
            }
            int far = Math.abs(w.after(24).out(p));
            byRank.put(far * 1000 + Math.abs(by) * 2 + (by > 0 ? 1 : 0), by);
        }
        return byRank.firstEntry().getValue();
    }

    private double likely(World w, int p, int minutes, int q, int odds) {
        if (q == 0) {
            return Math.abs(w.out(p)) >= minutes ? 1 : 0;
        }
        World a = w.copy();
        a.move(p, 20);
        a.quarter();
        World b = w.after(1);
        return (odds * likely(a, p, minutes, q - 1, odds) + (10 - odds) * likely(b, p, minutes, q - 1, odds)) / 10;
    }

    int chance(int p, int minutes, int q, int odds) {
        if (!in(p) || minutes < 1 || minutes > 60 || q < 1 || q > 6 || odds < 0 || odds > 10) {
            return -1;
        }
        return (int) Math.round(1e6 * likely(now, p, minutes, q, odds));
    }

    /** -99 for what throws. */
    int rests(int both, int loses, int gets, int what) {
        for (int x : new int[] {both, loses, gets}) {
            if (x < 0 || x > 9) {
                return -99;
            }
        }
        int[][] own = {{0, gets}, {-loses, both}};
        List<Integer> good = new ArrayList<>();
        for (int a = 0; a < 2; a++) {
            for (int b = 0; b < 2; b++) {
                if (own[a][b] >= own[1 - a][b] && own[b][a] >= own[1 - b][a]) {
                    good.add(2 * a + b);
                }
            }
        }
        return what == -1 ? good.size() : what >= 0 && what < good.size() ? good.get(what) : -99;
    }

    private long g;

    private int draw(int m) {
        g = g * 1103515245L + 12345L & (1L << 31) - 1;
        return (int) ((g >> 16) % m);
    }

    int years(int seed, int q, int what) {
        if (seed < 0 || seed > 9999 || q < 1 || q > 99 || what < 0 || what > 2) {
            return -1;
        }
        g = seed;
        World w = now.copy();
        for (int i = 0; i < q; i++) {
            if (n() > 0) {
                switch (draw(5)) {
                    case 0 -> {
                        int a = draw(n());
                        int b = draw(n());
                        if (a != b) {
                            w.ask(a, b);
                        }
                    }
                    case 1 -> {
                        int a = draw(n());
                        w.move(a, 1 + draw(30));
                    }
                    case 2 -> {
                        int a = draw(n());
                        w.move(a, -1 - draw(30));
                    }
                    default -> {
                    }
                }
            }
            w.quarter();
        }
        return what == 0 ? w.asked() - now.asked() : what == 1 ? w.worst() : w.beats();
    }

    @SuppressWarnings("unchecked")
    boolean mark(int m, boolean back) {
        if (m < 0 || m > 3) {
            return false;
        }
        if (!back) {
            marks.put(m, new Object[] {now.copy(), new ArrayList<>(seen), new ArrayList<>(told)});
            return true;
        }
        if (!marks.containsKey(m)) {
            return false;
        }
        Object[] all = marks.get(m);
        now = ((World) all[0]).copy();
        seen = new ArrayList<>((List<int[]>) all[1]);
        told = new ArrayList<>((List<int[]>) all[2]);
        past.clear();
        return true;
    }

    int count(int what) {
        int bits = 0;
        for (int i = 0; i < n(); i++) {
            bits |= now.out(i) == 0 ? 0 : 1 << i;
        }
        int[] all = {n(), now.quarters, now.truth(), now.beats(), now.asked(), bits, day.size(), seen.size(),
            told.size(), past.size(), tape.length()};
        return what >= 0 && what < all.length ? all[what] : -1;
    }
}
