import java.util.Arrays;
import java.util.NoSuchElementException;

/**
 * A port where the time is taken off wrists: people with beats of their own, who ask one another
 * on the hour, get frightened and soothed, and are more or less far out.
 *
 * <p>All rows are made in the constructors and used again: no call makes an object.
 */
public final class WristPort {
    public static final int NONE = -1;

    private static final int OTHERS = -1000;
    private static final int NOT_SUCH = -2;
    private static final int MOST_PERSONS = 6;
    private static final int MOST_PAIRS = 30;
    private static final int ROUND_THE_CLOCK = 720;
    private static final int FARTHEST_BEHIND = -360;
    private static final int FARTHEST_AHEAD = 359;
    private static final int QUARTER_MINUTES = 15;
    private static final int LEAST_BEATS = 20;
    private static final int MOST_BEATS = 160;
    private static final int MOST_MOVED = 60;
    private static final int FORESEEN = 96;
    private static final int SEEN_AHEAD = 24;
    private static final int TOLD_AHEAD = 40;
    private static final int AIM = 24;
    private static final int JUDGED_OUT = 60;
    private static final int MARKS = 4;

    private final Tape tape = new Tape();
    private Port currentPort = new Port();
    private Port sparePort = new Port();
    private Day currentDay = new Day();
    private Day spareDay = new Day();
    private final State now = new State();
    private final State trial = new State();
    private final History history = new History();
    private final Clues seenOuts = new Clues();
    private final Clues toldOuts = new Clues();
    private final Mark[] marks = new Mark[MARKS];
    private final Tally tally = new Tally();
    private final Draws draws = new Draws();
    private final int[] row = new int[MOST_PERSONS];
    private final int[] pairOuts = new int[(SEEN_AHEAD + 1) * MOST_PAIRS];

    public WristPort() {
        for (int i = 0; i < MARKS; i++) {
            marks[i] = new Mark();
        }
    }

    // ---- what is told ----

    public int feed(long a, long b, long c) {
        tape.addBytes(a);
        tape.addBytes(b);
        tape.addBytes(c);
        return tape.length;
    }

    public int port() {
        int fault = sparePort.readFrom(tape);
        tape.empty();
        if (fault == 0) {
            Port before = currentPort;
            currentPort = sparePort;
            sparePort = before;
            startAnew();
        }
        return fault;
    }

    private void startAnew() {
        now.copy(currentPort.begin);
        currentDay.size = 0;
        seenOuts.size = 0;
        toldOuts.size = 0;
        history.size = 0;
        for (int i = 0; i < MARKS; i++) {
            marks[i].laid = false;
        }
    }

    public int day() {
        int fault = spareDay.readFrom(tape, currentPort);
        tape.empty();
        if (fault == 0) {
            Day before = currentDay;
            currentDay = spareDay;
            spareDay = before;
        }
        return fault;
    }

    public int person(int person, int what) {
        if (!isPerson(person)) {
            return OTHERS;
        }
        switch (what) {
            case 0:
                return currentPort.kinds[person];
            case 1:
                return now.beats[person];
            case 2:
                return now.times[person];
            case 3:
                return now.outOf(person);
            case 4:
                return now.asked[person];
            case 5:
                return currentPort.asks[person];
            default:
                return OTHERS;
        }
    }

    // ---- days by hand ----

    public int ask(int person, int other) {
        if (!areTwo(person, other)) {
            return NONE;
        }
        history.keep(now);
        now.takeTime(person, other);
        return now.times[person];
    }

    public int fright(int person, int more) {
        return isWithin(more, 1, MOST_MOVED) ? moved(person, more) : NONE;
    }

    public int soothe(int person, int less) {
        return isWithin(less, 1, MOST_MOVED) ? moved(person, -less) : NONE;
    }

    private int moved(int person, int by) {
        if (!isPerson(person)) {
            return NONE;
        }
        history.keep(now);
        now.moveBeats(person, by);
        return now.beats[person];
    }

    public int quarter() {
        history.keep(now);
        currentPort.passQuarter(now);
        return now.trueTime();
    }

    public boolean undo() {
        return history.bringBack(now);
    }

    public int judged(int what) {
        if (!isWithin(what, 0, 2)) {
            return NOT_SUCH;
        }
        trial.copy(currentPort.begin);
        int line = NONE;
        for (int i = 0; i < currentDay.size; i++) {
            currentDay.doLine(i, currentPort, trial);
            if (line == NONE && worstOut(trial) >= JUDGED_OUT) {
                line = i;
            }
        }
        if (what == 0) {
            return line;
        }
        return what == 1 ? worstOut(trial) : allAsked(trial);
    }

    // ---- how far out one is ----

    public int later(int person, int quarters) {
        if (!isPerson(person) || !isWithin(quarters, 0, FORESEEN)) {
            return OTHERS;
        }
        return outLater(person, quarters);
    }

    public int worst() {
        int who = NONE;
        for (int i = 0; i < currentPort.size; i++) {
            if (who == NONE || farOf(now, i) > farOf(now, who)) {
                who = i;
            }
        }
        return who;
    }

    public int middle() {
        if (currentPort.size == 0) {
            return OTHERS;
        }
        int who = orderedAt(currentPort.size - 1 - currentPort.size / 2);
        return who == NONE ? OTHERS : now.outOf(who);
    }

    public int noon(int person) {
        if (!isPerson(person)) {
            return NONE;
        }
        trial.copy(now);
        for (int q = 1; q <= FORESEEN; q++) {
            if (has(currentPort.passQuarter(trial), person)) {
                return q;
            }
        }
        return NONE;
    }

    public int first() {
        trial.copy(now);
        for (int q = 1; q <= FORESEEN; q++) {
            int past = currentPort.passQuarter(trial);
            if (past != 0) {
                return Integer.numberOfTrailingZeros(past);
            }
        }
        return NONE;
    }

    public int meet(int person, int other) {
        if (!areTwo(person, other)) {
            return NONE;
        }
        trial.copy(now);
        for (int q = 0; q <= FORESEEN; q++) {
            if (trial.times[person] == trial.times[other]) {
                return q;
            }
            currentPort.passQuarter(trial);
        }
        return NONE;
    }

    public int ordered(int i) {
        return orderedAt(i);
    }

    /** Who has just so many ahead: farther ahead OUT, or as far and told sooner. */
    private int orderedAt(int place) {
        for (int i = 0; i < currentPort.size; i++) {
            int ahead = 0;
            for (int j = 0; j < currentPort.size; j++) {
                int more = now.outOf(j) - now.outOf(i);
                if (more > 0 || more == 0 && j < i) {
                    ahead++;
                }
            }
            if (ahead == place) {
                return i;
            }
        }
        return NONE;
    }

    // ---- setting all right ----

    public int round(int person, int what) {
        if (!isPerson(person) || !isWithin(what, NONE, currentPort.size - 2)) {
            return NOT_SUCH;
        }
        int rows = rowsOf(currentPort.size - 1);
        int best = 0;
        int least = roundSum(person, 0);
        for (int number = 1; number < rows; number++) {
            int sum = roundSum(person, number);
            if (sum < least) {
                least = sum;
                best = number;
            }
        }
        if (what == NONE) {
            return least;
        }
        layRow(person, best);
        return what >= 0 && what < row.length ? row[what] : NOT_SUCH;
    }

    /** All OUTS without signs behind the ROUND whose row has this number. */
    private int roundSum(int person, int number) {
        int others = layRow(person, number);
        trial.copy(now);
        for (int i = 0; i < others && i < row.length; i++) {
            trial.takeTime(row[i], person);
            currentPort.passQuarter(trial);
        }
        int sum = 0;
        for (int i = 0; i < currentPort.size; i++) {
            sum += farOf(trial, i);
        }
        return sum;
    }

    /** Lays the row of all others that has this number among all such rows, the first being 0. */
    private int layRow(int person, int number) {
        int others = 0;
        for (int i = 0; i < currentPort.size && others < row.length; i++) {
            if (i != person) {
                row[others] = i;
                others++;
            }
        }
        int rest = number;
        for (int i = 0; i < others; i++) {
            int rows = rowsOf(others - i - 1);
            pullForward(i, i + rest / rows);
            rest %= rows;
        }
        return others;
    }

    /** In how many rows so many can stand; 1 at least. */
    private static int rowsOf(int many) {
        int rows = 1;
        for (int k = 2; k <= many; k++) {
            rows *= k;
        }
        return rows;
    }

    private void pullForward(int to, int from) {
        if (to < 0 || from < to || from >= row.length) {
            return;
        }
        int who = row[from];
        for (int k = from; k > to; k--) {
            row[k] = row[k - 1];
        }
        row[to] = who;
    }

    public int askings(int minutes) {
        if (!isWithin(minutes, 0, MOST_MOVED)) {
            return NONE;
        }
        int all = (1 << currentPort.size) - 1;
        int best = all;
        // One who stays is enough for all others to ask; so just those who stay must be near.
        for (int who = 0; who < all; who++) {
            boolean fewer = Integer.bitCount(who) < Integer.bitCount(best);
            if (fewer && spreadOf(now, all & ~who) <= minutes) {
                best = who;
            }
        }
        return best;
    }

    // ---- trains ----

    public int train(int person, int quarters) {
        if (!isPerson(person) || !isWithin(quarters, 1, FORESEEN)) {
            return NONE;
        }
        return Math.max(0, -outLater(person, quarters));
    }

    public int missed(int quarters) {
        if (!isWithin(quarters, 1, FORESEEN)) {
            return NONE;
        }
        trial.copy(now);
        passQuarters(quarters);
        int late = 0;
        for (int i = 0; i < currentPort.size; i++) {
            if (trial.outOf(i) < 0) {
                late |= 1 << i;
            }
        }
        return late;
    }

    // ---- who asked whom ----

    public boolean see(int person, int quarters, int out) {
        if (!isPerson(person) || !isWithin(quarters, 0, SEEN_AHEAD) || !isOut(out)) {
            return false;
        }
        return seenOuts.add(person, quarters, out);
    }

    public int pairs(int what) {
        if (!isWithin(what, 0, 2)) {
            return NONE;
        }
        int many = 0;
        int askers = 0;
        int askeds = 0;
        for (int a = 0; a < currentPort.size; a++) {
            for (int b = 0; b < currentPort.size; b++) {
                if (a != b && agreesWithSeen(a, b)) {
                    many++;
                    askers |= 1 << a;
                    askeds |= 1 << b;
                }
            }
        }
        if (what == 0) {
            return many;
        }
        return what == 1 ? askers : askeds;
    }

    private boolean agreesWithSeen(int asker, int other) {
        trial.copy(now);
        trial.takeTime(asker, other);
        for (int q = 0; q <= SEEN_AHEAD; q++) {
            boolean more = false;
            for (int i = 0; i < seenOuts.size; i++) {
                if (seenOuts.quarters[i] == q && trial.outOf(seenOuts.persons[i]) != seenOuts.outs[i]) {
                    return false;
                }
                more |= seenOuts.quarters[i] > q;
            }
            if (!more) {
                return true;
            }
            currentPort.passQuarter(trial);
        }
        return true;
    }

    public int look(int person) {
        if (!isPerson(person)) {
            return NONE;
        }
        int many = foreseePairs(person);
        int best = NONE;
        int least = many;
        for (int q = 0; q <= SEEN_AHEAD; q++) {
            tally.clear();
            for (int i = 0; i < many; i++) {
                tally.add(pairOuts[q * MOST_PAIRS + i]);
            }
            if (tally.greatest < least) {
                least = tally.greatest;
                best = q;
            }
        }
        return best;
    }

    /** Lays for each QUARTER to come how far OUT this one is by each of the PAIRS: how many these are. */
    private int foreseePairs(int person) {
        int many = 0;
        for (int a = 0; a < currentPort.size; a++) {
            for (int b = 0; b < currentPort.size; b++) {
                if (a != b && many < MOST_PAIRS && agreesWithSeen(a, b)) {
                    trial.copy(now);
                    trial.takeTime(a, b);
                    for (int q = 0; q <= SEEN_AHEAD; q++) {
                        pairOuts[q * MOST_PAIRS + many] = trial.outOf(person);
                        currentPort.passQuarter(trial);
                    }
                    many++;
                }
            }
        }
        return many;
    }

    // ---- whose beats fit ----

    public boolean tell(int quarters, int out) {
        if (!isWithin(quarters, 1, TOLD_AHEAD) || !isOut(out)) {
            return false;
        }
        return toldOuts.add(NONE, quarters, out);
    }

    public int fits(int what) {
        if (!isWithin(what, 0, 2)) {
            return NONE;
        }
        int many = 0;
        int least = NONE;
        int greatest = NONE;
        for (int beats = LEAST_BEATS; beats <= MOST_BEATS; beats++) {
            if (agreesWithTold(beats)) {
                many++;
                least = least == NONE ? beats : least;
                greatest = beats;
            }
        }
        if (what == 0) {
            return many;
        }
        return what == 1 ? least : greatest;
    }

    public int when() {
        int best = NONE;
        int least = fits(0);
        for (int q = 1; q <= TOLD_AHEAD; q++) {
            tally.clear();
            for (int beats = LEAST_BEATS; beats <= MOST_BEATS; beats++) {
                if (agreesWithTold(beats)) {
                    tally.add(plainOut(beats, q));
                }
            }
            if (tally.greatest < least) {
                least = tally.greatest;
                best = q;
            }
        }
        return best;
    }

    private boolean agreesWithTold(int beats) {
        for (int i = 0; i < toldOuts.size; i++) {
            if (plainOut(beats, toldOuts.quarters[i]) != toldOuts.outs[i]) {
                return false;
            }
        }
        return true;
    }

    private static int plainOut(int beats, int quarters) {
        int minutes = (beats / 4 - QUARTER_MINUTES) * quarters;
        return Math.floorMod(minutes - FARTHEST_BEHIND, ROUND_THE_CLOCK) + FARTHEST_BEHIND;
    }

    // ---- through whom a time comes ----

    public int comes(int person) {
        if (!isPerson(person)) {
            return NONE;
        }
        int to = 0;
        for (int i = 0; i < currentPort.size; i++) {
            if (currentPort.asksThrough(i, person)) {
                to |= 1 << i;
            }
        }
        return to;
    }

    public int rings() {
        int ring = 0;
        for (int i = 0; i < currentPort.size; i++) {
            if (currentPort.asksThrough(i, i)) {
                ring |= 1 << i;
            }
        }
        return ring;
    }

    public int calm() {
        int who = NONE;
        for (int i = 0; i < currentPort.size; i++) {
            if (who == NONE || now.beats[i] < now.beats[who]) {
                who = i;
            }
        }
        return who;
    }

    public int drift(int person, int quarters) {
        if (!isPerson(person) || !isWithin(quarters, 1, FORESEEN)) {
            return OTHERS;
        }
        return Math.abs(outLater(person, quarters)) - farOf(now, person);
    }

    public int near(int minutes) {
        if (!isWithin(minutes, 0, MOST_MOVED)) {
            return NONE;
        }
        int many = 0;
        for (int i = 0; i < currentPort.size; i++) {
            for (int j = 0; j < i; j++) {
                if (Math.abs(now.outOf(i) - now.outOf(j)) <= minutes) {
                    many++;
                }
            }
        }
        return many;
    }

    public int spread() {
        return spreadOf(now, everybody());
    }

    public int right(int person) {
        if (!isPerson(person)) {
            return NONE;
        }
        trial.copy(now);
        for (int q = 0; q <= FORESEEN; q++) {
            if (trial.outOf(person) == 0) {
                return q;
            }
            currentPort.passQuarter(trial);
        }
        return NONE;
    }

    public int steady() {
        trial.copy(now);
        currentPort.passQuarter(trial);
        int who = NONE;
        int least = 0;
        for (int i = 0; i < currentPort.size; i++) {
            int change = Math.abs(trial.outOf(i) - now.outOf(i));
            if (who == NONE || change < least) {
                who = i;
                least = change;
            }
        }
        return who;
    }

    public int passes(int person, int other, int quarters) {
        if (!areTwo(person, other) || !isWithin(quarters, 1, FORESEEN)) {
            return NONE;
        }
        trial.copy(now);
        int many = 0;
        int before = Integer.compare(trial.outOf(person), trial.outOf(other));
        for (int q = 0; q < quarters; q++) {
            currentPort.passQuarter(trial);
            int then = Integer.compare(trial.outOf(person), trial.outOf(other));
            if (then != before) {
                many++;
            }
            before = then;
        }
        return many;
    }

    public int hub() {
        int who = NONE;
        int most = 0;
        for (int i = 0; i < currentPort.size; i++) {
            int many = 0;
            for (int j = 0; j < currentPort.size; j++) {
                if (currentPort.asks[j] == i) {
                    many++;
                }
            }
            if (many > most) {
                most = many;
                who = i;
            }
        }
        return who;
    }

    public int teacher(int person) {
        if (!isPerson(person)) {
            return NONE;
        }
        int who = NONE;
        int least = Math.abs(outLater(person, AIM));
        for (int i = 0; i < currentPort.size; i++) {
            if (i != person) {
                trial.copy(now);
                trial.takeTime(person, i);
                passQuarters(AIM);
                if (farOf(trial, person) < least) {
                    least = farOf(trial, person);
                    who = i;
                }
            }
        }
        return who;
    }

    public int together() {
        trial.copy(now);
        int best = 0;
        int least = spreadOf(trial, everybody());
        for (int q = 1; q <= FORESEEN; q++) {
            currentPort.passQuarter(trial);
            int wide = spreadOf(trial, everybody());
            if (wide < least) {
                least = wide;
                best = q;
            }
        }
        return best;
    }

    public int cure(int person) {
        if (!isPerson(person)) {
            return OTHERS;
        }
        int best = 0;
        int least = Math.abs(outLater(person, AIM));
        for (int beats = 1; beats <= MOST_MOVED; beats++) {
            for (int sign = -1; sign <= 1; sign += 2) {
                int by = sign * beats;
                // Beyond the bounds of beats it is as by fewer, which come ahead.
                if (isWithin(now.beats[person] + by, LEAST_BEATS, MOST_BEATS)) {
                    trial.copy(now);
                    trial.moveBeats(person, by);
                    passQuarters(AIM);
                    if (farOf(trial, person) < least) {
                        least = farOf(trial, person);
                        best = by;
                    }
                }
            }
        }
        return best;
    }

    // ---- odd frights, asking at rest, years ----

    public int chance(int person, int minutes, int quarters, int odds) {
        if (!isPerson(person) || !isWithin(minutes, 1, 60)) {
            return NONE;
        }
        if (!isWithin(quarters, 1, 6) || !isWithin(odds, 0, 10)) {
            return NONE;
        }
        int millionths = 0;
        for (int frights = 0; frights < 1 << quarters; frights++) {
            int weight = 1;
            trial.copy(now);
            for (int q = 0; q < 6; q++) {
                if (q >= quarters) {
                    weight *= 10;
                } else {
                    weight *= has(frights, q) ? odds : 10 - odds;
                    trial.moveBeats(person, has(frights, q) ? 20 : 0);
                    currentPort.passQuarter(trial);
                }
            }
            if (farOf(trial, person) >= minutes) {
                millionths += weight;
            }
        }
        return millionths;
    }

    public int rests(int both, int loses, int gets, int what) throws NoSuchElementException {
        if (!isWithin(both, 0, 9) || !isWithin(loses, 0, 9) || !isWithin(gets, 0, 9)) {
            throw new NoSuchElementException();
        }
        int many = 0;
        for (int choices = 0; choices < 4; choices++) {
            int one = choices / 2;
            int other = choices % 2;
            if (isBest(one, other, both, loses, gets) && isBest(other, one, both, loses, gets)) {
                if (many == what) {
                    return choices;
                }
                many++;
            }
        }
        if (what != NONE) {
            throw new NoSuchElementException();
        }
        return many;
    }

    /** If one would not get more by the other choice, the other one's choice being as it is. */
    private static boolean isBest(int own, int other, int both, int loses, int gets) {
        int asking = other == 1 ? both : -loses;
        int going = other == 1 ? gets : 0;
        return own == 1 ? asking >= going : going >= asking;
    }

    public int years(int seed, int quarters, int what) {
        if (!isWithin(seed, 0, 9999) || !isWithin(quarters, 1, 99) || !isWithin(what, 0, 2)) {
            return NONE;
        }
        draws.state = seed;
        trial.copy(now);
        for (int q = 0; q < quarters; q++) {
            if (currentPort.size > 0) {
                drawOne(currentPort.size);
            }
            currentPort.passQuarter(trial);
        }
        if (what == 0) {
            return allAsked(trial) - allAsked(now);
        }
        return what == 1 ? worstOut(trial) : allBeats(trial);
    }

    private void drawOne(int persons) {
        int kind = draws.below(5);
        if (kind > 2) {
            return;
        }
        int who = draws.below(persons);
        if (kind == 0) {
            int other = draws.below(persons);
            if (who != other) {
                trial.takeTime(who, other);
            }
        } else {
            int beats = draws.below(30) + 1;
            trial.moveBeats(who, kind == 1 ? beats : -beats);
        }
    }

    // ---- marks, and what there is ----

    public boolean mark(int mark, boolean back) {
        if (!isWithin(mark, 0, MARKS - 1)) {
            return false;
        }
        Mark one = marks[mark];
        if (!back) {
            one.lay(now, seenOuts, toldOuts);
            return true;
        }
        if (!one.laid) {
            return false;
        }
        now.copy(one.state);
        seenOuts.copy(one.seenThen);
        toldOuts.copy(one.toldThen);
        history.size = 0;
        return true;
    }

    public int count(int what) {
        switch (what) {
            case 0:
                return currentPort.size;
            case 1:
                return now.quarters;
            case 2:
                return now.trueTime();
            case 3:
                return allBeats(now);
            case 4:
                return allAsked(now);
            case 5:
                return whoIsOut();
            case 6:
                return currentDay.size;
            case 7:
                return seenOuts.size;
            case 8:
                return toldOuts.size;
            case 9:
                return history.size;
            case 10:
                return tape.length;
            default:
                return NONE;
        }
    }

    private int whoIsOut() {
        int who = 0;
        for (int i = 0; i < currentPort.size; i++) {
            if (now.outOf(i) != 0) {
                who |= 1 << i;
            }
        }
        return who;
    }

    // ---- what many calls use ----

    private boolean isPerson(int person) {
        return person >= 0 && person < currentPort.size;
    }

    private boolean areTwo(int person, int other) {
        return isPerson(person) && isPerson(other) && person != other;
    }

    private static boolean isWithin(int number, int least, int greatest) {
        return number >= least && number <= greatest;
    }

    private static boolean isOut(int out) {
        return isWithin(out, FARTHEST_BEHIND, FARTHEST_AHEAD);
    }

    private static boolean has(int bits, int place) {
        return (bits >> place & 1) != 0;
    }

    private int everybody() {
        return (1 << currentPort.size) - 1;
    }

    private void passQuarters(int quarters) {
        for (int q = 0; q < quarters; q++) {
            currentPort.passQuarter(trial);
        }
    }

    private int outLater(int person, int quarters) {
        trial.copy(now);
        passQuarters(quarters);
        return trial.outOf(person);
    }

    private static int farOf(State state, int person) {
        return Math.abs(state.outOf(person));
    }

    private int worstOut(State state) {
        int far = 0;
        for (int i = 0; i < currentPort.size; i++) {
            far = Math.max(far, farOf(state, i));
        }
        return far;
    }

    /** The farthest ahead less the farthest behind of these (bits); 0 of nobody. */
    private int spreadOf(State state, int who) {
        int ahead = FARTHEST_BEHIND;
        int behind = FARTHEST_AHEAD;
        for (int i = 0; i < currentPort.size; i++) {
            if (has(who, i)) {
                ahead = Math.max(ahead, state.outOf(i));
                behind = Math.min(behind, state.outOf(i));
            }
        }
        return Math.max(0, ahead - behind);
    }

    private int allAsked(State state) {
        int sum = 0;
        for (int i = 0; i < currentPort.size; i++) {
            sum += state.asked[i];
        }
        return sum;
    }

    private int allBeats(State state) {
        int sum = 0;
        for (int i = 0; i < currentPort.size; i++) {
            sum += state.beats[i];
        }
        return sum;
    }

    // ---- classes inside ----

    /** The signs that were fed, and the token at which their reading stands. */
    private static final class Tape {
        static final int MOST_SIGNS = 1000;
        static final int MISPLACED = 1;
        static final int UNKNOWN = 2;
        static final int AGAIN = 3;
        static final int AMISS = 4;
        static final int TOO_MANY = 5;

        private static final int END = 0;
        private static final int WORD = 1;
        private static final int NUMBER = 2;
        private static final int SIGN = 3;
        private static final int STRANGE = 4;
        private static final int LONGEST_WORD = 8;
        private static final int LONGEST_NUMBER = 4;
        private static final String SIGNS = "()<=+-*;";

        private final char[] signs = new char[MOST_SIGNS];
        int length;
        /** The word of the token, as a number in which every letter is a place. */
        long word;
        /** The number of the token. */
        int number;
        /** The fault that was met; 0 if none was. */
        int fault;
        private int kind;
        private int place;
        private int behind;

        void addBytes(long bytes) {
            for (int shift = 56; shift >= 0; shift -= 8) {
                int sign = (int) (bytes >>> shift) & 255;
                boolean fit = sign == 10 || sign >= 32 && sign <= 126;
                if (fit && length < MOST_SIGNS) {
                    signs[length] = (char) sign;
                    length++;
                }
            }
        }

        void empty() {
            length = 0;
        }

        /** Goes to the first token. */
        void start() {
            behind = 0;
            fault = 0;
            advance();
        }

        void advance() {
            int at = behind;
            while (at < length && isBlank(signs[at])) {
                at++;
            }
            place = at;
            if (at >= length) {
                kind = END;
            } else if (isLetter(signs[at])) {
                readWord();
            } else if (isDigit(signs[at])) {
                readNumber();
            } else {
                kind = SIGNS.indexOf(signs[at]) >= 0 ? SIGN : STRANGE;
                behind = at + 1;
            }
        }

        private void readWord() {
            int at = place;
            word = 0;
            while (at < length && isLetter(signs[at])) {
                word = word * 27 + (signs[at] - 'a' + 1);
                at++;
            }
            kind = at - place <= LONGEST_WORD ? WORD : STRANGE;
            behind = at;
        }

        private void readNumber() {
            int at = place;
            number = 0;
            while (at < length && isDigit(signs[at])) {
                number = number * 10 + (signs[at] - '0');
                at++;
            }
            kind = at - place <= LONGEST_NUMBER ? NUMBER : STRANGE;
            behind = at;
        }

        private static boolean isBlank(char sign) {
            return sign == 10 || sign == 32;
        }

        private static boolean isLetter(char sign) {
            return sign >= 'a' && sign <= 'z';
        }

        private static boolean isDigit(char sign) {
            return sign >= '0' && sign <= '9';
        }

        boolean isEnd() {
            return kind == END;
        }

        boolean isNumber() {
            return kind == NUMBER;
        }

        boolean isSign(char sign) {
            return kind == SIGN && place < length && signs[place] == sign;
        }

        boolean isWord(String other) {
            if (kind != WORD || behind - place != other.length()) {
                return false;
            }
            for (int i = 0; i < other.length() && place + i < length; i++) {
                if (signs[place + i] != other.charAt(i)) {
                    return false;
                }
            }
            return true;
        }

        boolean isName() {
            return kind == WORD && !isLineWord() && !isOtherWord();
        }

        private boolean isLineWord() {
            return isWord("person") || isWord("asks") || isWord("sets") || isWord("moods")
                    || isWord("ask") || isWord("fright") || isWord("soothe") || isWord("quarter");
        }

        private boolean isOtherWord() {
            return isWord("beats") || isWord("not") || isWord("and") || isWord("or")
                    || isWord("plain") || isWord("child") || isWord("old") || isWord("calm");
        }

        /** Says that the token is wrong: false, for whoever reads. */
        boolean refuse(int why) {
            fault = why + 16 * place;
            return false;
        }

        boolean takeWord(String other) {
            if (!isWord(other)) {
                return refuse(MISPLACED);
            }
            advance();
            return true;
        }

        boolean takeSign(char sign) {
            if (!isSign(sign)) {
                return refuse(MISPLACED);
            }
            advance();
            return true;
        }

        /** If the token is a NUMBER from the least to the greatest one; it is not gone past. */
        boolean holdsNumber(int least, int greatest) {
            if (kind != NUMBER) {
                return refuse(MISPLACED);
            }
            return isWithin(number, least, greatest) || refuse(AMISS);
        }
    }

    /** The E of moods, its parts ahead of what joins them. */
    private static final class Moods {
        private static final int BEAT = -1;
        private static final int OUT = -2;
        private static final int ASKED = -3;
        private static final int HOUR = -4;
        private static final int NOT = -5;
        private static final int AND = -6;
        private static final int OR = -7;
        private static final int LESS = -8;
        private static final int SAME = -9;
        private static final int PLUS = -10;
        private static final int MINUS = -11;
        private static final int TIMES = -12;
        private static final int NOTHING = -13;
        private static final int DEEPEST = 5;
        // At each of 5 depths an E, a TEST, a SUM and a PRODUCT may wait for their right side.
        private static final int MOST_WAITING = 32;

        /** What is done, one by one: a number of its own, or one of the names above. */
        private final int[] steps = new int[Tape.MOST_SIGNS];
        private final int[] waiting = new int[MOST_WAITING];
        private int size;
        boolean areTold;

        void clear() {
            size = 0;
            areTold = false;
        }

        private void put(int step) {
            if (size < steps.length) {
                steps[size] = step;
                size++;
            }
        }

        /** Takes an E; the depth is how many not and ( ) it lies within. */
        private boolean readTests(Tape tape, int depth) {
            boolean fine = readTest(tape, depth);
            int join = tape.isWord("and") ? AND : tape.isWord("or") ? OR : NOTHING;
            for (int i = 0; i < Tape.MOST_SIGNS && fine && join != NOTHING; i++) {
                tape.advance();
                fine = readTest(tape, depth);
                put(join);
                join = tape.isWord("and") ? AND : tape.isWord("or") ? OR : NOTHING;
            }
            return fine;
        }

        private boolean readTest(Tape tape, int depth) {
            boolean fine = readSum(tape, depth);
            int join = tape.isSign('<') ? LESS : tape.isSign('=') ? SAME : NOTHING;
            if (fine && join != NOTHING) {
                tape.advance();
                fine = readSum(tape, depth);
                put(join);
            }
            return fine;
        }

        private boolean readSum(Tape tape, int depth) {
            boolean fine = readProduct(tape, depth);
            int join = tape.isSign('+') ? PLUS : tape.isSign('-') ? MINUS : NOTHING;
            for (int i = 0; i < Tape.MOST_SIGNS && fine && join != NOTHING; i++) {
                tape.advance();
                fine = readProduct(tape, depth);
                put(join);
                join = tape.isSign('+') ? PLUS : tape.isSign('-') ? MINUS : NOTHING;
            }
            return fine;
        }

        private boolean readProduct(Tape tape, int depth) {
            boolean fine = readPart(tape, depth);
            for (int i = 0; i < Tape.MOST_SIGNS && fine && tape.isSign('*'); i++) {
                tape.advance();
                fine = readPart(tape, depth);
                put(TIMES);
            }
            return fine;
        }

        private boolean readPart(Tape tape, int depth) {
            boolean isNot = tape.isWord("not");
            boolean isOpen = tape.isSign('(');
            int fact = factOf(tape);
            if (!isNot && !isOpen && fact == NOTHING && !tape.isNumber()) {
                return tape.refuse(Tape.MISPLACED);
            }
            if (depth >= DEEPEST) {
                return tape.refuse(Tape.TOO_MANY);
            }
            int number = tape.number;
            tape.advance();
            if (isNot) {
                boolean fine = readPart(tape, depth + 1);
                put(NOT);
                return fine;
            }
            if (isOpen) {
                return readTests(tape, depth + 1) && tape.takeSign(')');
            }
            put(fact == NOTHING ? number : fact);
            return true;
        }

        private static int factOf(Tape tape) {
            if (tape.isWord("beat")) {
                return BEAT;
            }
            if (tape.isWord("out")) {
                return OUT;
            }
            if (tape.isWord("asked")) {
                return ASKED;
            }
            return tape.isWord("hour") ? HOUR : NOTHING;
        }

        /** What the E comes to by these facts; 0 without moods. */
        int value(int beat, int out, int asked, int hour) {
            int top = 0;
            for (int i = 0; i < size && i < steps.length; i++) {
                int step = steps[i];
                if (step >= HOUR) {
                    if (top < waiting.length) {
                        waiting[top] = step >= 0 ? step : factValue(step, beat, out, asked, hour);
                        top++;
                    }
                } else if (step == NOT) {
                    if (top >= 1) {
                        waiting[top - 1] = waiting[top - 1] == 0 ? 1 : 0;
                    }
                } else if (top >= 2) {
                    top--;
                    waiting[top - 1] = joined(step, waiting[top - 1], waiting[top]);
                }
            }
            return top >= 1 ? waiting[top - 1] : 0;
        }

        private static int factValue(int fact, int beat, int out, int asked, int hour) {
            switch (fact) {
                case BEAT:
                    return beat;
                case OUT:
                    return out;
                case ASKED:
                    return asked;
                default:
                    return hour;
            }
        }

        private static int joined(int join, int left, int right) {
            switch (join) {
                case AND:
                    return left != 0 && right != 0 ? 1 : 0;
                case OR:
                    return left != 0 || right != 0 ? 1 : 0;
                case LESS:
                    return left < right ? 1 : 0;
                case SAME:
                    return left == right ? 1 : 0;
                case PLUS:
                    return left + right;
                case MINUS:
                    return left - right;
                default:
                    return left * right;
            }
        }
    }

    /** The PERSONS as they were told, and the law by which a QUARTER goes by. */
    private static final class Port {
        private static final int CHILD = 1;
        private static final int OLD = 2;
        private static final int CALM = 3;
        private static final int MOST_MOOD = 20;

        private final long[] names = new long[MOST_PERSONS];
        private final boolean[] timeIsTold = new boolean[MOST_PERSONS];
        private final Moods moods = new Moods();
        final int[] kinds = new int[MOST_PERSONS];
        final int[] asks = new int[MOST_PERSONS];
        final State begin = new State();
        int size;

        private void clear() {
            size = 0;
            begin.clear();
            moods.clear();
            Arrays.fill(asks, NONE);
            for (int i = 0; i < MOST_PERSONS; i++) {
                timeIsTold[i] = false;
            }
        }

        /** Becomes what the tape tells: 0, or the fault that is met (the rest is not told then). */
        int readFrom(Tape tape) {
            clear();
            tape.start();
            boolean fine = true;
            for (int i = 0; i < Tape.MOST_SIGNS && fine && !tape.isEnd(); i++) {
                fine = readLine(tape) && tape.takeSign(';');
            }
            return tape.fault;
        }

        private boolean readLine(Tape tape) {
            if (tape.isWord("person")) {
                return readPerson(tape);
            }
            if (tape.isWord("asks")) {
                return readAsks(tape);
            }
            if (tape.isWord("sets")) {
                return readSets(tape);
            }
            if (!tape.isWord("moods")) {
                return tape.refuse(Tape.MISPLACED);
            }
            if (moods.areTold) {
                return tape.refuse(Tape.AGAIN);
            }
            moods.areTold = true;
            tape.advance();
            return moods.readTests(tape, 0);
        }

        private boolean readPerson(Tape tape) {
            if (size >= MOST_PERSONS) {
                return tape.refuse(Tape.TOO_MANY);
            }
            tape.advance();
            if (!tape.isName()) {
                return tape.refuse(Tape.MISPLACED);
            }
            if (numberOf(tape.word) != NONE) {
                return tape.refuse(Tape.AGAIN);
            }
            names[size] = tape.word;
            tape.advance();
            kinds[size] = kindOf(tape);
            if (kinds[size] == NONE) {
                return tape.refuse(Tape.MISPLACED);
            }
            tape.advance();
            if (!tape.takeWord("beats") || !tape.holdsNumber(LEAST_BEATS, MOST_BEATS)) {
                return false;
            }
            begin.beats[size] = tape.number;
            size++;
            tape.advance();
            return true;
        }

        private static int kindOf(Tape tape) {
            if (tape.isWord("plain")) {
                return 0;
            }
            if (tape.isWord("child")) {
                return CHILD;
            }
            if (tape.isWord("old")) {
                return OLD;
            }
            return tape.isWord("calm") ? CALM : NONE;
        }

        private boolean readAsks(Tape tape) {
            tape.advance();
            int asker = personAt(tape);
            if (asker == NONE) {
                return false;
            }
            if (asks[asker] != NONE) {
                return tape.refuse(Tape.AGAIN);
            }
            tape.advance();
            int other = personAt(tape);
            if (other == NONE) {
                return false;
            }
            if (other == asker) {
                return tape.refuse(Tape.AGAIN);
            }
            asks[asker] = other;
            tape.advance();
            return true;
        }

        private boolean readSets(Tape tape) {
            tape.advance();
            int who = personAt(tape);
            if (who == NONE) {
                return false;
            }
            if (timeIsTold[who]) {
                return tape.refuse(Tape.AGAIN);
            }
            tape.advance();
            if (!tape.holdsNumber(0, ROUND_THE_CLOCK - 1)) {
                return false;
            }
            begin.times[who] = tape.number;
            timeIsTold[who] = true;
            tape.advance();
            return true;
        }

        private int numberOf(long name) {
            for (int i = 0; i < size; i++) {
                if (names[i] == name) {
                    return i;
                }
            }
            return NONE;
        }

        /** The PERSON whose NAME the token is; NONE, and a fault, if it is nobody's. */
        int personAt(Tape tape) {
            if (!tape.isName()) {
                tape.refuse(Tape.MISPLACED);
                return NONE;
            }
            int who = numberOf(tape.word);
            if (who == NONE) {
                tape.refuse(Tape.UNKNOWN);
            }
            return who;
        }

        /** A QUARTER goes by: whose times went on to 0, or past it (bits). */
        int passQuarter(State state) {
            int past = 0;
            for (int i = 0; i < size; i++) {
                int time = state.times[i] + state.beats[i] / 4 + stepMore(kinds[i]);
                if (time >= ROUND_THE_CLOCK) {
                    time -= ROUND_THE_CLOCK;
                    past |= 1 << i;
                }
                state.times[i] = time;
            }
            state.quarters++;
            if (state.quarters % 4 == 0) {
                askOnTheHour(state);
            }
            if (moods.areTold) {
                changeMoods(state);
            }
            return past;
        }

        private static int stepMore(int kind) {
            if (kind == CHILD) {
                return 2;
            }
            return kind == OLD ? -2 : 0;
        }

        private void askOnTheHour(State state) {
            for (int i = 0; i < size; i++) {
                if (asks[i] != NONE) {
                    state.takeTime(i, asks[i]);
                }
            }
        }

        private void changeMoods(State state) {
            int hour = state.trueTime() / 60;
            for (int i = 0; i < size; i++) {
                if (kinds[i] != CALM) {
                    int mood = moods.value(state.beats[i], state.outOf(i), state.asked[i], hour);
                    state.moveBeats(i, Math.max(-MOST_MOOD, Math.min(MOST_MOOD, mood)));
                }
            }
        }

        /** If the one asks the other one on the hour, through however many. */
        boolean asksThrough(int one, int other) {
            int who = one;
            for (int i = 0; i < size; i++) {
                who = asks[who];
                if (who == other) {
                    return true;
                }
                if (who == NONE) {
                    return false;
                }
            }
            return false;
        }
    }

    /** The lines of a DAY. */
    private static final class Day {
        private static final int MOST_LINES = 40;
        private static final int ASK = 0;
        private static final int MOVE = 1;
        private static final int PASS = 2;

        private final int[] kinds = new int[MOST_LINES];
        private final int[] persons = new int[MOST_LINES];
        /** Whom one asks, or how many beats more one has. */
        private final int[] seconds = new int[MOST_LINES];
        int size;

        /** Becomes what the tape tells: 0, or the fault that is met. */
        int readFrom(Tape tape, Port port) {
            size = 0;
            tape.start();
            boolean fine = true;
            for (int i = 0; i < Tape.MOST_SIGNS && fine && !tape.isEnd(); i++) {
                fine = readLine(tape, port) && tape.takeSign(';');
            }
            return tape.fault;
        }

        private boolean readLine(Tape tape, Port port) {
            boolean asks = tape.isWord("ask");
            boolean more = tape.isWord("fright");
            boolean less = tape.isWord("soothe");
            if (!asks && !more && !less && !tape.isWord("quarter")) {
                return tape.refuse(Tape.MISPLACED);
            }
            if (size >= MOST_LINES) {
                return tape.refuse(Tape.TOO_MANY);
            }
            tape.advance();
            if (asks) {
                return readAsk(tape, port);
            }
            if (more || less) {
                return readMove(tape, port, more ? 1 : -1);
            }
            return addLine(PASS, 0, 0);
        }

        private boolean readAsk(Tape tape, Port port) {
            int asker = port.personAt(tape);
            if (asker == NONE) {
                return false;
            }
            tape.advance();
            int other = port.personAt(tape);
            if (other == NONE) {
                return false;
            }
            if (other == asker) {
                return tape.refuse(Tape.AGAIN);
            }
            tape.advance();
            return addLine(ASK, asker, other);
        }

        private boolean readMove(Tape tape, Port port, int sign) {
            int who = port.personAt(tape);
            if (who == NONE) {
                return false;
            }
            tape.advance();
            if (!tape.holdsNumber(1, MOST_MOVED)) {
                return false;
            }
            int beats = sign * tape.number;
            tape.advance();
            return addLine(MOVE, who, beats);
        }

        private boolean addLine(int kind, int person, int second) {
            if (size < MOST_LINES) {
                kinds[size] = kind;
                persons[size] = person;
                seconds[size] = second;
                size++;
            }
            return true;
        }

        void doLine(int line, Port port, State state) {
            if (line < 0 || line >= size) {
                return;
            }
            switch (kinds[line]) {
                case ASK:
                    state.takeTime(persons[line], seconds[line]);
                    break;
                case MOVE:
                    state.moveBeats(persons[line], seconds[line]);
                    break;
                default:
                    port.passQuarter(state);
                    break;
            }
        }
    }

    /** How it is with all at one time: all that UNDO brings back. */
    private static final class State {
        final int[] times = new int[MOST_PERSONS];
        final int[] beats = new int[MOST_PERSONS];
        final int[] asked = new int[MOST_PERSONS];
        int quarters;

        void clear() {
            Arrays.fill(times, 0);
            Arrays.fill(beats, 0);
            Arrays.fill(asked, 0);
            quarters = 0;
        }

        void copy(State other) {
            System.arraycopy(other.times, 0, times, 0, MOST_PERSONS);
            System.arraycopy(other.beats, 0, beats, 0, MOST_PERSONS);
            System.arraycopy(other.asked, 0, asked, 0, MOST_PERSONS);
            quarters = other.quarters;
        }

        int trueTime() {
            return quarters * QUARTER_MINUTES % ROUND_THE_CLOCK;
        }

        int outOf(int person) {
            int out = times[person] - trueTime();
            if (out < FARTHEST_BEHIND) {
                return out + ROUND_THE_CLOCK;
            }
            return out > FARTHEST_AHEAD ? out - ROUND_THE_CLOCK : out;
        }

        void takeTime(int person, int other) {
            times[person] = times[other];
            asked[other]++;
        }

        void moveBeats(int person, int by) {
            beats[person] = Math.max(LEAST_BEATS, Math.min(MOST_BEATS, beats[person] + by));
        }
    }

    /** The last states that can be brought back, the newest one last. */
    private static final class History {
        private static final int MOST_KEPT = 16;

        private final State[] kept = new State[MOST_KEPT];
        /** Where the next one goes, round the row. */
        private int next;
        int size;

        History() {
            for (int i = 0; i < MOST_KEPT; i++) {
                kept[i] = new State();
            }
        }

        void keep(State state) {
            kept[next].copy(state);
            next = (next + 1) % MOST_KEPT;
            size = Math.min(MOST_KEPT, size + 1);
        }

        boolean bringBack(State state) {
            if (size == 0) {
                return false;
            }
            next = (next + MOST_KEPT - 1) % MOST_KEPT;
            size--;
            state.copy(kept[next]);
            return true;
        }
    }

    /** What is SEEN, or TOLD: how far OUT one is behind so many QUARTERS. */
    private static final class Clues {
        private static final int MOST_CLUES = 6;

        final int[] persons = new int[MOST_CLUES];
        final int[] quarters = new int[MOST_CLUES];
        final int[] outs = new int[MOST_CLUES];
        int size;

        boolean add(int person, int quarter, int out) {
            if (size >= MOST_CLUES) {
                return false;
            }
            persons[size] = person;
            quarters[size] = quarter;
            outs[size] = out;
            size++;
            return true;
        }

        void copy(Clues other) {
            System.arraycopy(other.persons, 0, persons, 0, MOST_CLUES);
            System.arraycopy(other.quarters, 0, quarters, 0, MOST_CLUES);
            System.arraycopy(other.outs, 0, outs, 0, MOST_CLUES);
            size = other.size;
        }
    }

    /** What a MARK holds. */
    private static final class Mark {
        final State state = new State();
        final Clues seenThen = new Clues();
        final Clues toldThen = new Clues();
        boolean laid;

        void lay(State now, Clues seenNow, Clues toldNow) {
            state.copy(now);
            seenThen.copy(seenNow);
            toldThen.copy(toldNow);
            laid = true;
        }
    }

    /** How many are as far OUT as one another, and the greatest number of these. */
    private static final class Tally {
        private final int[] many = new int[ROUND_THE_CLOCK];
        int greatest;

        void clear() {
            Arrays.fill(many, 0);
            greatest = 0;
        }

        void add(int out) {
            int place = out - FARTHEST_BEHIND;
            if (place >= 0 && place < many.length) {
                many[place]++;
                greatest = Math.max(greatest, many[place]);
            }
        }
    }

    /** The draws of YEARS. */
    private static final class Draws {
        long state;

        int below(int many) {
            state = (state * 1103515245L + 12345L) % 2147483648L;
            return many > 0 ? (int) (state / 65536 % many) : 0;
        }
    }
}
