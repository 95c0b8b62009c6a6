import java.util.Arrays;

/** A maypole as ../shared/DOC.md tells it; the words in capitals are the document's own. */
public final class MaypoleGreen {
    public static final int NONE = -1;

    private static final int MOST_TRAYS = 4;
    private static final int MOST_NUMBERS = 60;
    private static final int LONGEST_SORT = 3;
    private static final int MOST_BYTES = 900;
    private static final int BYTES_FED = 20;
    private static final int MOST_FEAST_BYTES = 300;
    private static final int MOST_DANCERS = 7;
    private static final int MOST_LETTERS = 8;
    private static final int MOST_DIGITS = 4;
    private static final int MOST_PASSES = 40;
    private static final int MOST_COLOUR = 5;
    private static final int NO_COLOUR = 6;
    private static final int MOST_ODDS = 16;
    private static final int MOST_LONG = 40;
    private static final int MOST_STEPS = 30;
    private static final int MOST_NESTED = 3;
    private static final int MOST_WEAVES = 9;
    private static final int MOST_LOOPS = 99;
    private static final int MOST_LIVED = 300;
    private static final int MOST_SEED = 9999;
    private static final int MOST_SEEDS = 20;
    private static final int MOST_MARKS = 3;
    private static final int MOST_TWOS = 20;
    private static final int MOST_AHEAD = 4;
    private static final int MOST_TURNS = 3;
    private static final int MOST_SLIPPED = 12;
    private static final int MOST_DRIFT = 5;

    private static final int FINE = 0;
    private static final int WRONG_NUMBER = 1;
    private static final int MISSING = 2;
    private static final int TOO_FEW = 3;
    private static final int ONE_TOO_MANY = 4;
    private static final int WRONG_IN_TRAY = 5;
    private static final int NONE_SUCH = 6;
    private static final int CANNOT_BE = 7;
    private static final int UNLIKE_SORTS = 8;
    private static final int FAULTY = 9;

    private static final int NO_TOKEN = 1;
    private static final int MISPLACED = 2;
    private static final int WRONG_NAME = 3;
    private static final int NUMBER_OUT = 4;
    private static final int NOT_NOW = 5;
    private static final int TOO_MUCH = 6;
    private static final int TOO_DEEP = 7;

    private static final String RESERVED_WORDS =
            "odds long dancer colour pass over under back weave paint any when home at shows plait loop end stop ";
    private static final int RESERVED_MANY = 19;
    private static final int ODDS = 0;
    private static final int LONG = 1;
    private static final int DANCER = 2;
    private static final int COLOUR = 3;
    private static final int PASS = 4;
    private static final int OVER = 5;
    private static final int UNDER = 6;
    private static final int BACK = 7;
    private static final int WEAVE = 8;
    private static final int PAINT = 9;
    private static final int ANY = 10;
    private static final int WHEN = 11;
    private static final int HOME = 12;
    private static final int AT = 13;
    private static final int SHOWS = 14;
    private static final int PLAIT = 15;
    private static final int LOOP = 16;
    private static final int END = 17;
    private static final int STOP = 18;

    private final Tray[] trays;
    private final byte[] tape;
    private int taped;
    private int lastStatus;
    private int faultKind;
    private int faultPlace;
    private Green now;
    /** Takes a text that may prove faulty, and what is only tried; what it holds between calls is free. */
    private Green spare;
    private final Green[] kept;
    private int marks;
    private final Feasts draft;
    private final Reader reader;
    private final Life life;
    private final int[] lastLived;
    private boolean hasLived;
    private final Homing homing;
    private final Outlook outlook;
    private final Plait difference;
    private final Chances chances;

    // ---- the calls, in the document's order

    public MaypoleGreen() {
        trays = new Tray[MOST_TRAYS];
        for (int k = 0; k < MOST_TRAYS; k++) {
            trays[k] = new Tray();
        }
        tape = new byte[MOST_BYTES];
        faultKind = NONE;
        faultPlace = NONE;
        now = new Green();
        spare = new Green();
        kept = new Green[MOST_MARKS];
        for (int k = 0; k < MOST_MARKS; k++) {
            kept[k] = new Green();
        }
        draft = new Feasts();
        reader = new Reader();
        life = new Life();
        lastLived = new int[5];
        homing = new Homing();
        outlook = new Outlook();
        difference = new Plait(2 * MOST_PASSES);
        chances = new Chances();
    }

    public int status() {
        return lastStatus;
    }

    public long top() {
        return chances.part;
    }

    public long bottom() {
        return chances.whole;
    }

    public boolean tray(int tray, int sort, int many) {
        if (!isTray(tray) || !isWithin(sort, 0, LONGEST_SORT) || !isWithin(many, 0, MOST_NUMBERS)) {
            return refuse(WRONG_NUMBER);
        }
        trays[tray].become(sort, many);
        return grant();
    }

    public boolean write(int tray, int place, long v) {
        int problem = cellProblem(tray, place);
        if (problem != FINE) {
            return refuse(problem);
        }
        trays[tray].put(place, v);
        return grant();
    }

    public long read(int tray, int place) {
        int problem = cellProblem(tray, place);
        if (problem != FINE) {
            return fail(problem);
        }
        lastStatus = FINE;
        return trays[tray].cells[place];
    }

    public boolean pour(int from, int place, int to, int at, int many) {
        if (!isTray(from) || !isTray(to) || place < 0 || at < 0 || many < 0) {
            return refuse(WRONG_NUMBER);
        }
        Tray source = trays[from];
        Tray goal = trays[to];
        if (!source.there || !goal.there) {
            return refuse(MISSING);
        }
        if (source.sort != goal.sort) {
            return refuse(UNLIKE_SORTS);
        }
        if (!source.hasRoom(place, many) || !goal.hasRoom(at, many)) {
            return refuse(TOO_FEW);
        }
        System.arraycopy(source.cells, place, goal.cells, at, many);
        return grant();
    }

    public int feed(int a, int b, int c, int d, int e) {
        if (taped + BYTES_FED > MOST_BYTES) {
            return NONE;
        }
        tapeInt(a);
        tapeInt(b);
        tapeInt(c);
        tapeInt(d);
        tapeInt(e);
        return taped;
    }

    public int green(int n) {
        if (!isWithin(n, 0, taped)) {
            return fail(WRONG_NUMBER);
        }
        reader.readGreen(tape, n, spare);
        if (!closeText()) {
            return fail(FAULTY);
        }
        Green old = now;
        now = spare;
        spare = old;
        return give(now.dancers);
    }

    public int feasts(int n) {
        if (!isWithin(n, 0, taped) || n > MOST_FEAST_BYTES) {
            return fail(WRONG_NUMBER);
        }
        reader.readFeasts(tape, n, now, draft);
        if (!closeText()) {
            return fail(FAULTY);
        }
        now.feasts.copyFrom(draft);
        return give(now.feasts.count);
    }

    public int fault(int what) {
        if (what == 0) {
            return faultKind;
        }
        return what == 1 ? faultPlace : NONE;
    }

    public int told(int what) {
        switch (what) {
            case 0: return give(now.dancers);
            case 1: return give(now.gaps());
            case 2: return give(now.plait.size);
            case 3: return give(now.odds);
            case 4: return give(now.longest);
            case 5: return give(now.greatestRow());
            case 6: return give(now.came + now.undone);
            case 7: return give(now.atHome());
            case 8: return give(now.freeGaps());
            case 9: return give(now.coloursShown());
            default: return fail(WRONG_NUMBER);
        }
    }

    public int dancer(int dancer, int what) {
        if (!isDancer(dancer)) {
            return fail(WRONG_NUMBER);
        }
        switch (what) {
            case 0: return give(now.places[dancer]);
            case 1: return give(now.colours[dancer]);
            case 2: return give(now.left(dancer));
            case 3: return give(now.plait.timesOver(dancer));
            case 4: return give(now.used[dancer] - now.plait.timesOver(dancer));
            default: return fail(WRONG_NUMBER);
        }
    }

    public int place(int place) {
        return isPlace(place) ? give(now.standing[place]) : fail(WRONG_NUMBER);
    }

    public int plait(int k, int what) {
        if (!isWithin(what, 0, 6)) {
            return fail(WRONG_NUMBER);
        }
        if (!isWithin(k, 0, now.plait.size - 1)) {
            return fail(NONE_SUCH);
        }
        switch (what) {
            case 0: return give(now.plait.gapAt(k));
            case 1: return give(now.plait.overAt(k));
            case 2: return give(now.plait.upperAt(k));
            case 3: return give(now.plait.lowerAt(k));
            case 4: return give(now.rowAt(k));
            case 5: return give(now.isFree(k) ? 1 : 0);
            default: return give(now.mustGo(k, NONE));
        }
    }

    public int shows(int gap) {
        if (!isGap(gap)) {
            return fail(WRONG_NUMBER);
        }
        int colour = now.colourIn(gap, now.plait.size);
        return colour == NO_COLOUR ? fail(NONE_SUCH) : give(colour);
    }

    public int passes(int gap) {
        return isGap(gap) ? give(now.plait.timesIn(gap)) : fail(WRONG_NUMBER);
    }

    public int pass(int gap, boolean over) {
        if (!isGap(gap)) {
            return fail(WRONG_NUMBER);
        }
        int made = now.makePass(over ? 2 * gap + 1 : 2 * gap);
        return made == NONE ? fail(CANNOT_BE) : give(now.plait.size);
    }

    public int back() {
        return now.doBack() ? give(now.plait.size) : fail(CANNOT_BE);
    }

    public int weave() {
        int done = now.weaveTimes(1);
        return done == 0 ? fail(CANNOT_BE) : give(done);
    }

    public int paint(int dancer, int colour) {
        if (!isDancer(dancer) || !isWithin(colour, 0, MOST_COLOUR)) {
            return fail(WRONG_NUMBER);
        }
        int old = now.colours[dancer];
        now.colours[dancer] = colour;
        return give(old);
    }

    public boolean trade(int dancer, int other) {
        if (!areTwo(dancer, other)) {
            return refuse(WRONG_NUMBER);
        }
        int colour = now.colours[dancer];
        if (colour == now.colours[other]) {
            return refuse(CANNOT_BE);
        }
        now.colours[dancer] = now.colours[other];
        now.colours[other] = colour;
        return grant();
    }

    public int come(int colour) {
        if (!isWithin(colour, 0, MOST_COLOUR)) {
            return fail(WRONG_NUMBER);
        }
        if (now.dancers >= MOST_DANCERS) {
            return fail(ONE_TOO_MANY);
        }
        if (now.plait.size > 0 || now.atHome() != (1 << now.dancers) - 1) {
            return fail(CANNOT_BE);
        }
        now.join(0L, colour);
        return give(now.dancers - 1);
    }

    public boolean rule(int what, int much) {
        if (what == 3 && isWithin(much, 0, MOST_ODDS)) {
            now.odds = much;
            return grant();
        }
        if (what == 4 && isWithin(much, 1, MOST_LONG)) {
            now.longest = much;
            return grant();
        }
        return refuse(WRONG_NUMBER);
    }

    public int bound(int dancer) {
        return isDancer(dancer) ? give(now.mustGo(NONE, dancer)) : fail(WRONG_NUMBER);
    }

    public int homeward() {
        return give(homing.fewest(now));
    }

    public int homewardAt(int k) {
        if (k < 0) {
            return fail(WRONG_NUMBER);
        }
        int gap = homing.gapOnWay(now, k);
        return gap == NONE ? fail(NONE_SUCH) : give(gap);
    }

    public int meet(int dancer, int other) {
        if (!areTwo(dancer, other)) {
            return fail(WRONG_NUMBER);
        }
        int between = Math.abs(now.places[dancer] - now.places[other]);
        return give(Math.min(between, now.dancers - between) - 1);
    }

    public int same(int tray, int n) {
        int problem = danceProblem(tray, n);
        if (problem != FINE) {
            return fail(problem);
        }
        return give(passesApart(trays[tray], n, NONE) == 0 ? 1 : 0);
    }

    public int apart(int tray, int n) {
        int problem = danceProblem(tray, n);
        return problem == FINE ? give(passesApart(trays[tray], n, NONE)) : fail(problem);
    }

    public int slips(int tray, int n) {
        int problem = danceProblem(tray, n);
        if (problem != FINE) {
            return fail(problem);
        }
        int many = 0;
        for (int k = 0; k < n; k++) {
            if (passesApart(trays[tray], n, k) == 0) {
                many++;
            }
        }
        return give(many);
    }

    public int slipAt(int tray, int n, int k) {
        int problem = k < 0 ? WRONG_NUMBER : danceProblem(tray, n);
        if (problem != FINE) {
            return fail(problem);
        }
        int many = 0;
        for (int at = 0; at < n; at++) {
            if (passesApart(trays[tray], n, at) == 0) {
                if (many == k) {
                    return give(at);
                }
                many++;
            }
        }
        return fail(NONE_SUCH);
    }

    public int fits(int tray, int n, int k) {
        int problem = seenProblem(tray, n, k);
        if (problem != FINE) {
            return fail(problem);
        }
        outlook.search(trays[tray], n, trial(), k);
        return give(outlook.rows);
    }

    public int fitsAt(int tray, int n, int k, int place) {
        int problem = place < 0 ? WRONG_NUMBER : seenProblem(tray, n, k);
        if (problem != FINE) {
            return fail(problem);
        }
        if (place >= k) {
            return fail(NONE_SUCH);
        }
        outlook.search(trays[tray], n, trial(), k);
        return outlook.rows == 0 ? fail(NONE_SUCH) : give(outlook.first[place]);
    }

    public int ask(int tray, int n, int k) {
        int problem = seenProblem(tray, n, k);
        if (problem != FINE) {
            return fail(problem);
        }
        outlook.search(trays[tray], n, trial(), k);
        int gap = outlook.partingGap();
        return gap == NONE ? fail(NONE_SUCH) : give(gap);
    }

    public int game(int n) {
        if (!isWithin(n, 0, MOST_TURNS)) {
            return fail(WRONG_NUMBER);
        }
        return give(Play.worth(trial(), n, true));
    }

    public int moveOf(int n) {
        if (!isWithin(n, 1, MOST_TURNS)) {
            return fail(WRONG_NUMBER);
        }
        int move = Play.opening(trial(), n);
        return move == NONE ? fail(NONE_SUCH) : give(move);
    }

    public boolean slipped(int n, int k) {
        if (!isWithin(n, 0, MOST_SLIPPED) || !isWithin(k, 0, MOST_SLIPPED)) {
            return refuse(WRONG_NUMBER);
        }
        chances.setSlips(now.odds, n, k);
        return grant();
    }

    public boolean drift(int dancer, int place, int k) {
        if (!isDancer(dancer) || !isPlace(place) || !isWithin(k, 0, MOST_DRIFT)) {
            return refuse(WRONG_NUMBER);
        }
        if (now.gaps() == 0 && k > 0) {
            return refuse(NONE_SUCH);
        }
        chances.setDrift(now, now.places[dancer], place, k);
        return grant();
    }

    public boolean share(int dancer) {
        if (!isDancer(dancer)) {
            return refuse(WRONG_NUMBER);
        }
        if (now.plait.size == 0) {
            return refuse(NONE_SUCH);
        }
        chances.set(now.plait.timesOver(dancer), now.plait.size);
        return grant();
    }

    public int copyShows(int tray) {
        if (!isTray(tray)) {
            return fail(WRONG_NUMBER);
        }
        Tray goal = trays[tray];
        if (!goal.there) {
            return fail(MISSING);
        }
        int gaps = now.gaps();
        if (gaps > goal.size) {
            return fail(TOO_FEW);
        }
        for (int gap = 0; gap < gaps; gap++) {
            goal.put(gap, now.colourIn(gap, now.plait.size));
        }
        return give(gaps);
    }

    public int live(int seed) {
        if (!isWithin(seed, 0, MOST_SEED)) {
            return fail(WRONG_NUMBER);
        }
        if (!now.feasts.there) {
            return fail(NONE_SUCH);
        }
        int came = now.came;
        int undone = now.undone;
        life.begin(now, now.feasts, seed);
        life.doBlock(0, now.feasts.count, 0);
        lastLived[0] = life.missed;
        lastLived[2] = now.came - came;
        lastLived[3] = now.undone - undone;
        lastLived[1] = lastLived[2] + lastLived[3];
        lastLived[4] = life.left;
        hasLived = true;
        return give(life.steps);
    }

    public int lived(int what) {
        if (!isWithin(what, 0, 4)) {
            return fail(WRONG_NUMBER);
        }
        return hasLived ? give(lastLived[what]) : fail(NONE_SUCH);
    }

    public boolean mean(int seed, int many) {
        if (!isWithin(seed, 0, MOST_SEED) || !isWithin(many, 1, MOST_SEEDS) || seed + many - 1 > MOST_SEED) {
            return refuse(WRONG_NUMBER);
        }
        if (!now.feasts.there) {
            return refuse(NONE_SUCH);
        }
        int sum = 0;
        for (int k = 0; k < many; k++) {
            spare.copyFrom(now);
            life.begin(spare, now.feasts, seed + k);
            life.doBlock(0, now.feasts.count, 0);
            sum += spare.plait.size;
        }
        chances.set(sum, many);
        return grant();
    }

    public int mark() {
        if (marks >= MOST_MARKS) {
            return fail(ONE_TOO_MANY);
        }
        kept[marks].copyFrom(now);
        kept[marks].feasts.copyFrom(now.feasts);
        marks++;
        return give(marks);
    }

    public int undo() {
        if (marks == 0) {
            return fail(NONE_SUCH);
        }
        marks--;
        now.copyFrom(kept[marks]);
        now.feasts.copyFrom(kept[marks].feasts);
        return give(marks);
    }

    // ---- how a call ends

    private int give(int answer) {
        lastStatus = FINE;
        return answer;
    }

    private int fail(int problem) {
        lastStatus = problem;
        return NONE;
    }

    private boolean grant() {
        lastStatus = FINE;
        return true;
    }

    private boolean refuse(int problem) {
        lastStatus = problem;
        return false;
    }

    // ---- what a call asks first

    private static boolean isWithin(int number, int least, int most) {
        return number >= least && number <= most;
    }

    private static boolean isTray(int tray) {
        return isWithin(tray, 0, MOST_TRAYS - 1);
    }

    private boolean isDancer(int dancer) {
        return isWithin(dancer, 0, now.dancers - 1);
    }

    private boolean isPlace(int place) {
        return isWithin(place, 0, now.dancers - 1);
    }

    private boolean isGap(int gap) {
        return isWithin(gap, 0, now.gaps() - 1);
    }

    private boolean areTwo(int dancer, int other) {
        return isDancer(dancer) && isDancer(other) && dancer != other;
    }

    private int cellProblem(int tray, int place) {
        if (!isTray(tray)) {
            return WRONG_NUMBER;
        }
        if (!trays[tray].there) {
            return MISSING;
        }
        return isWithin(place, 0, trays[tray].size - 1) ? FINE : TOO_FEW;
    }

    private int danceProblem(int tray, int n) {
        if (!isTray(tray) || !isWithin(n, 0, MOST_PASSES)) {
            return WRONG_NUMBER;
        }
        if (!trays[tray].there) {
            return MISSING;
        }
        if (n > trays[tray].size) {
            return TOO_FEW;
        }
        return trays[tray].areBelow(0, n, 1, 2L * now.gaps()) ? FINE : WRONG_IN_TRAY;
    }

    private int seenProblem(int tray, int n, int k) {
        if (!isTray(tray) || !isWithin(n, 0, MOST_TWOS) || !isWithin(k, 0, MOST_AHEAD)) {
            return WRONG_NUMBER;
        }
        Tray seen = trays[tray];
        if (!seen.there) {
            return MISSING;
        }
        if (2 * n > seen.size) {
            return TOO_FEW;
        }
        boolean gapsAre = seen.areBelow(0, 2 * n, 2, now.gaps());
        boolean coloursAre = seen.areBelow(1, 2 * n, 2, NO_COLOUR + 1L);
        return gapsAre && coloursAre ? FINE : WRONG_IN_TRAY;
    }

    // ---- what the calls share

    private void tapeInt(int four) {
        for (int shift = 24; shift >= 0; shift -= 8) {
            if (taped < MOST_BYTES) {
                tape[taped] = (byte) (four >> shift);
                taped++;
            }
        }
    }

    /** Whether the text that was read is without a FAULT; the tape is empty behind it either way. */
    private boolean closeText() {
        taped = 0;
        faultKind = reader.faultKind;
        faultPlace = reader.faultPlace;
        return faultKind == 0;
    }

    private Green trial() {
        spare.copyFrom(now);
        return spare;
    }

    /**
     * How many PASSES lead from the PLAIT now to that of a DANCE, whose PASS at flipped is the opposite one:
     * all PASSES now undone, the last first, then the DANCE, are as many as are left when what undoes has done so.
     */
    private int passesApart(Tray dance, int n, int flipped) {
        difference.size = 0;
        for (int k = now.plait.size - 1; k >= 0; k--) {
            difference.add(Plait.packed(now.plait.gapAt(k), 1 - now.plait.overAt(k), 0, 0));
        }
        for (int k = 0; k < n; k++) {
            int code = (int) dance.cells[k];
            int gap = code >> 1;
            int over = k == flipped ? 1 - (code & 1) : code & 1;
            int undoes = difference.undoneBy(gap, over, now.touching(gap));
            if (undoes == NONE) {
                difference.add(Plait.packed(gap, over, 0, 0));
            } else {
                difference.remove(undoes);
            }
        }
        return difference.size;
    }

    // ---- TRAYS

    private static final class Tray {
        final long[] cells = new long[MOST_NUMBERS];
        boolean there;
        int sort;
        int size;

        void become(int newSort, int many) {
            there = true;
            sort = newSort;
            size = many;
            Arrays.fill(cells, 0L);
        }

        boolean hasRoom(int place, int many) {
            return place <= size && many <= size - place;
        }

        void put(int place, long v) {
            cells[place] = cut(v);
        }

        private long cut(long v) {
            switch (sort) {
                case 0: return (byte) v;
                case 1: return (short) v;
                case 2: return (int) v;
                default: return v;
            }
        }

        /** Whether every stride-th number from a place on, ahead of another one, is 0 or more and below a limit. */
        boolean areBelow(int from, int ahead, int stride, long limit) {
            for (int k = from; k < ahead; k += stride) {
                if (cells[k] < 0 || cells[k] >= limit) {
                    return false;
                }
            }
            return true;
        }
    }

    // ---- the PLAIT

    /** A row of PASSES; each is one number, so that a row is shifted and copied at once. */
    private static final class Plait {
        final int[] row;
        int size;

        Plait(int most) {
            row = new int[most];
        }

        static int packed(int gap, int over, int upper, int lower) {
            return gap | over << 3 | upper << 4 | lower << 7;
        }

        int gapAt(int k) {
            return row[k] & 7;
        }

        int overAt(int k) {
            return row[k] >> 3 & 1;
        }

        int upperAt(int k) {
            return row[k] >> 4 & 7;
        }

        int lowerAt(int k) {
            return row[k] >> 7 & 7;
        }

        boolean has(int k, int dancer) {
            return upperAt(k) == dancer || lowerAt(k) == dancer;
        }

        /** The place of the PASS that one in a GAP would undo, or NONE; touching: the GAPS that TOUCH that one. */
        int undoneBy(int gap, int over, int touching) {
            for (int k = size - 1; k >= 0; k--) {
                int other = row[k] & 7;
                if ((touching >> other & 1) != 0) {
                    // the latest that TOUCHES is FREE; if it is in another GAP, it lies over all in this one
                    return other == gap && (row[k] >> 3 & 1) != over ? k : NONE;
                }
            }
            return NONE;
        }

        /** The place of the latest PASS in a GAP ahead of a place, or NONE. */
        int latestIn(int gap, int ahead) {
            for (int k = ahead - 1; k >= 0; k--) {
                if ((row[k] & 7) == gap) {
                    return k;
                }
            }
            return NONE;
        }

        int timesIn(int gap) {
            int many = 0;
            for (int k = 0; k < size; k++) {
                if (gapAt(k) == gap) {
                    many++;
                }
            }
            return many;
        }

        int timesOver(int dancer) {
            int many = 0;
            for (int k = 0; k < size; k++) {
                if (upperAt(k) == dancer) {
                    many++;
                }
            }
            return many;
        }

        void add(int pass) {
            insert(size, pass);
        }

        void insert(int k, int pass) {
            if (k < 0 || k > size || size >= row.length) {
                return;
            }
            System.arraycopy(row, k, row, k + 1, size - k);
            row[k] = pass;
            size++;
        }

        void remove(int k) {
            if (k < 0 || k >= size) {
                return;
            }
            size--;
            System.arraycopy(row, k + 1, row, k, size - k);
        }

        void copyFrom(Plait other) {
            size = other.size;
            System.arraycopy(other.row, 0, row, 0, other.size);
        }
    }

    // ---- the GREEN

    private static final class Green {
        int dancers;
        int odds;
        int longest;
        int came;
        int undone;
        /** By DANCER; 0 for one who came without a NAME. */
        final long[] names = new long[MOST_DANCERS];
        final int[] colours = new int[MOST_DANCERS];
        final int[] places = new int[MOST_DANCERS];
        /** In how many PASSES of the PLAIT each DANCER is. */
        final int[] used = new int[MOST_DANCERS];
        /** By PLACE: who stands there. */
        final int[] standing = new int[MOST_DANCERS];
        final Plait plait = new Plait(MOST_PASSES);
        final Feasts feasts = new Feasts();
        private final int[] rowsByGap = new int[MOST_DANCERS];

        Green() {
            odds = 2;
            longest = 12;
        }

        void clear() {
            dancers = 0;
            odds = 2;
            longest = 12;
            plait.size = 0;
            feasts.clear();
            forgetDone();
        }

        void forgetDone() {
            came = 0;
            undone = 0;
        }

        /** All but the FEASTS. */
        void copyFrom(Green other) {
            dancers = other.dancers;
            odds = other.odds;
            longest = other.longest;
            came = other.came;
            undone = other.undone;
            System.arraycopy(other.names, 0, names, 0, MOST_DANCERS);
            System.arraycopy(other.colours, 0, colours, 0, MOST_DANCERS);
            System.arraycopy(other.places, 0, places, 0, MOST_DANCERS);
            System.arraycopy(other.used, 0, used, 0, MOST_DANCERS);
            System.arraycopy(other.standing, 0, standing, 0, MOST_DANCERS);
            plait.copyFrom(other.plait);
        }

        void join(long name, int colour) {
            if (dancers >= MOST_DANCERS) {
                return;
            }
            names[dancers] = name;
            colours[dancers] = colour;
            places[dancers] = dancers;
            used[dancers] = 0;
            standing[dancers] = dancers;
            dancers++;
        }

        int named(long name) {
            for (int dancer = 0; dancer < dancers; dancer++) {
                if (names[dancer] == name) {
                    return dancer;
                }
            }
            return NONE;
        }

        int gaps() {
            if (dancers < 2) {
                return 0;
            }
            return dancers == 2 ? 1 : dancers;
        }

        int nextPlace(int place) {
            return place + 1 >= dancers ? 0 : place + 1;
        }

        /** Where he who stands in a PLACE is behind a PASS in a GAP. */
        int placeBehind(int place, int gap) {
            if (place == gap) {
                return nextPlace(place);
            }
            return place == nextPlace(gap) ? gap : place;
        }

        /** The set of GAPS that TOUCH a GAP (1 for GAP 0 ..). */
        int touching(int gap) {
            int ahead = gap == 0 ? dancers - 1 : gap - 1;
            return 1 << gap | 1 << ahead | 1 << nextPlace(gap);
        }

        int left(int dancer) {
            return Math.max(0, longest - used[dancer]);
        }

        /** Whether the PLAIT has room, and the two in a GAP have ribbon LEFT. */
        boolean canAdd(int gap) {
            int next = nextPlace(gap);
            return plait.size < MOST_PASSES && used[standing[gap]] < longest && used[standing[next]] < longest;
        }

        /** A PASS (GAP twice, 1 more if it is over): NONE if it can't be, else what takeBack() needs. */
        int makePass(int code) {
            int gap = code >> 1;
            int over = code & 1;
            int undoes = plait.undoneBy(gap, over, touching(gap));
            if (undoes != NONE) {
                int gone = plait.row[undoes];
                removePass(undoes);
                undone++;
                return 1 + (undoes << 10 | gone);
            }
            if (!canAdd(gap)) {
                return NONE;
            }
            int first = standing[gap];
            int second = standing[nextPlace(gap)];
            int upper = over == 1 ? first : second;
            insertPass(plait.size, Plait.packed(gap, over, upper, first + second - upper));
            came++;
            return 0;
        }

        /** Undoes a PASS that was only tried; how many were done is not taken back. */
        void takeBack(int made) {
            if (made == 0) {
                removePass(plait.size - 1);
            } else if (made > 0) {
                insertPass(made - 1 >> 10, made - 1 & 1023);
            }
        }

        boolean doBack() {
            if (plait.size == 0) {
                return false;
            }
            removePass(plait.size - 1);
            undone++;
            return true;
        }

        /** How many PASSES are done by so many WEAVES. */
        int weaveTimes(int times) {
            int done = 0;
            int gaps = gaps();
            boolean moving = true;
            for (int time = 0; time < times && moving; time++) {
                int before = done;
                for (int gap = 0; gap < gaps; gap += 2) {
                    boolean meetsFirst = gap > 0 && (touching(gap) & 1) != 0;
                    if (!meetsFirst && makePass(2 * gap + 1) != NONE) {
                        done++;
                    }
                }
                for (int gap = 1; gap < gaps; gap += 2) {
                    if (makePass(2 * gap) != NONE) {
                        done++;
                    }
                }
                // behind one that does nothing, the next would find all as it was
                moving = done > before;
            }
            return done;
        }

        private void insertPass(int k, int pass) {
            plait.insert(k, pass);
            used[plait.upperAt(k)]++;
            used[plait.lowerAt(k)]++;
            changePlaces(plait.gapAt(k));
        }

        private void removePass(int k) {
            used[plait.upperAt(k)]--;
            used[plait.lowerAt(k)]--;
            changePlaces(plait.gapAt(k));
            plait.remove(k);
        }

        private void changePlaces(int gap) {
            int next = nextPlace(gap);
            int first = standing[gap];
            standing[gap] = standing[next];
            standing[next] = first;
            places[first] = next;
            places[standing[gap]] = gap;
        }

        /** What would SHOW in the GAP of a PASS behind it (NO_COLOUR, too), NONE if it can't be. */
        int colourBehind(int gap, int over) {
            int undoes = plait.undoneBy(gap, over, touching(gap));
            if (undoes != NONE) {
                return colourIn(gap, undoes);
            }
            if (!canAdd(gap)) {
                return NONE;
            }
            return colours[over == 1 ? standing[gap] : standing[nextPlace(gap)]];
        }

        /** What SHOWS in a GAP (NO_COLOUR, too) by the first so many PASSES of the PLAIT. */
        int colourIn(int gap, int many) {
            int latest = plait.latestIn(gap, many);
            return latest == NONE ? NO_COLOUR : colours[plait.upperAt(latest)];
        }

        void fillColours(int[] shown) {
            Arrays.fill(shown, NO_COLOUR);
            for (int k = 0; k < plait.size; k++) {
                shown[plait.gapAt(k)] = colours[plait.upperAt(k)];
            }
        }

        int coloursShown() {
            int seen = 0;
            int set = 0;
            for (int k = plait.size - 1; k >= 0; k--) {
                int gap = 1 << plait.gapAt(k);
                if ((seen & gap) == 0) {
                    seen |= gap;
                    set |= 1 << colours[plait.upperAt(k)];
                }
            }
            return Integer.bitCount(set);
        }

        int atHome() {
            int set = 0;
            for (int dancer = 0; dancer < dancers; dancer++) {
                if (places[dancer] == dancer) {
                    set |= 1 << dancer;
                }
            }
            return set;
        }

        boolean isFree(int k) {
            int touching = touching(plait.gapAt(k));
            for (int later = k + 1; later < plait.size; later++) {
                if ((touching >> plait.gapAt(later) & 1) != 0) {
                    return false;
                }
            }
            return true;
        }

        int freeGaps() {
            int set = 0;
            for (int k = 0; k < plait.size; k++) {
                if (isFree(k)) {
                    set |= 1 << plait.gapAt(k);
                }
            }
            return set;
        }

        /** The ROW of a PASS; leaves in rowsByGap the greatest ROWS up to it. */
        int rowAt(int k) {
            Arrays.fill(rowsByGap, 0);
            int row = 0;
            for (int at = 0; at <= k; at++) {
                int touching = touching(plait.gapAt(at));
                row = 0;
                for (int gap = 0; gap < MOST_DANCERS; gap++) {
                    if ((touching >> gap & 1) != 0) {
                        row = Math.max(row, rowsByGap[gap]);
                    }
                }
                row++;
                rowsByGap[plait.gapAt(at)] = row;
            }
            return row;
        }

        int greatestRow() {
            rowAt(plait.size - 1);
            int greatest = 0;
            for (int gap = 0; gap < MOST_DANCERS; gap++) {
                greatest = Math.max(greatest, rowsByGap[gap]);
            }
            return greatest;
        }

        /** How many must be undone for one PASS, or for all of a DANCER; NONE for the one not asked for. */
        int mustGo(int pass, int dancer) {
            int many = 0;
            int gapsHeld = 0;
            for (int k = 0; k < plait.size; k++) {
                int gap = plait.gapAt(k);
                boolean asked = k == pass || plait.has(k, dancer);
                if (asked || (touching(gap) & gapsHeld) != 0) {
                    many++;
                    gapsHeld |= 1 << gap;
                }
            }
            return many;
        }
    }

    // ---- HOMEWARD

    private static final class Homing {
        private final int[] standing = new int[MOST_DANCERS];
        private final int[] walks = new int[MOST_DANCERS];

        int fewest(Green green) {
            System.arraycopy(green.standing, 0, standing, 0, MOST_DANCERS);
            return fewestFrom(green.dancers);
        }

        /** The k-th GAP of the first of the shortest rows, or NONE. */
        int gapOnWay(Green green, int k) {
            int far = fewest(green);
            if (k >= far) {
                return NONE;
            }
            int gap = NONE;
            for (int at = 0; at <= k; at++) {
                gap = firstNearer(green, far - at);
            }
            return gap;
        }

        /** Does the first PASS that brings all nearer home. */
        private int firstNearer(Green green, int far) {
            int gaps = green.gaps();
            for (int gap = 0; gap < gaps; gap++) {
                exchange(gap, green.nextPlace(gap));
                if (fewestFrom(green.dancers) < far) {
                    return gap;
                }
                exchange(gap, green.nextPlace(gap));
            }
            return NONE;
        }

        private void exchange(int place, int other) {
            int who = standing[place];
            standing[place] = standing[other];
            standing[other] = who;
        }

        /**
         * Each walks round the ring, some the long way, and all walks together come to 0; the fewest PASSES are
         * needed when no two walks differ by more than the ring, and then each two pass as often as they must.
         */
        private int fewestFrom(int dancers) {
            for (int place = 0; place < dancers; place++) {
                walks[place] = standing[place] - place;
            }
            // one exchange a DANCER is plenty: each makes two walks shorter by the ring
            boolean closer = true;
            for (int round = 0; round < MOST_DANCERS && closer; round++) {
                closer = shareWalks(dancers);
            }
            int sum = 0;
            for (int place = 0; place < dancers; place++) {
                for (int other = place + 1; other < dancers; other++) {
                    int apart = place + walks[place] - other - walks[other];
                    sum += Math.abs(Math.floorDiv(apart, dancers) + 1);
                }
            }
            return sum;
        }

        /** The longest walk forwards and the longest backwards each go the other way, if that saves some. */
        private boolean shareWalks(int dancers) {
            int longest = 0;
            int shortest = 0;
            for (int place = 1; place < dancers; place++) {
                longest = walks[place] > walks[longest] ? place : longest;
                shortest = walks[place] < walks[shortest] ? place : shortest;
            }
            if (walks[longest] - walks[shortest] <= dancers) {
                return false;
            }
            walks[longest] -= dancers;
            walks[shortest] += dancers;
            return true;
        }
    }

    // ---- what is seen

    private static final class Outlook {
        int rows;
        final int[] first = new int[MOST_AHEAD];
        private Green trial;
        private int gaps;
        private final int[] path = new int[MOST_AHEAD];
        /** By GAP: the COLOUR that must SHOW, NONE for whatever SHOWS. */
        private final int[] wanted = new int[MOST_DANCERS];
        private final int[] shown = new int[MOST_DANCERS];
        private final int[] rowsBy = new int[MOST_DANCERS];
        /** By GAP and COLOUR: with how many rows that SHOWS. */
        private final int[] parted = new int[MOST_DANCERS * (NO_COLOUR + 1)];

        /** Whether no GAP must SHOW two things at once. */
        private boolean want(Tray seen, int n) {
            Arrays.fill(wanted, NONE);
            for (int k = 0; k < n; k++) {
                int gap = (int) seen.cells[2 * k];
                int colour = (int) seen.cells[2 * k + 1];
                if (!suits(gap, colour)) {
                    return false;
                }
                wanted[gap] = colour;
            }
            return true;
        }

        void search(Tray seen, int n, Green from, int k) {
            trial = from;
            gaps = from.gaps();
            rows = 0;
            Arrays.fill(parted, 0);
            if (want(seen, n)) {
                extend(0, k);
            }
        }

        /** The GAP that parts the rows best, NONE if none parts them. */
        int partingGap() {
            int best = NONE;
            int fewest = rows;
            for (int gap = 0; gap < gaps; gap++) {
                int most = 0;
                for (int colour = 0; colour <= NO_COLOUR; colour++) {
                    most = Math.max(most, parted[cell(gap, colour)]);
                }
                if (most < fewest) {
                    fewest = most;
                    best = gap;
                }
            }
            return best;
        }

        private static int cell(int gap, int colour) {
            return gap * (NO_COLOUR + 1) + colour;
        }

        private boolean suits(int gap, int colour) {
            return wanted[gap] == NONE || wanted[gap] == colour;
        }

        private void extend(int depth, int k) {
            int ahead = k - depth;
            trial.fillColours(shown);
            // a PASS changes what SHOWS in its own GAP alone
            if (wrongGaps() > ahead || depth > MOST_AHEAD) {
                return;
            }
            if (ahead <= 1) {
                finish(depth, ahead);
                return;
            }
            for (int code = 0; code < 2 * gaps; code++) {
                int made = trial.makePass(code);
                if (made != NONE) {
                    path[depth] = code;
                    extend(depth + 1, k);
                    trial.takeBack(made);
                }
            }
        }

        private int wrongGaps() {
            int many = 0;
            for (int gap = 0; gap < gaps; gap++) {
                if (!suits(gap, shown[gap])) {
                    many++;
                }
            }
            return many;
        }

        /** The last PASS need not be done: all but its own GAP SHOW as they do, so the rows are counted at once. */
        private void finish(int depth, int ahead) {
            Arrays.fill(rowsBy, 0);
            int before = rows;
            if (ahead == 0) {
                rows++;
            } else {
                boolean allSuit = wrongGaps() == 0;
                for (int code = 0; code < 2 * gaps; code++) {
                    if (allSuit || !suits(code >> 1, shown[code >> 1])) {
                        lastPass(depth, code);
                    }
                }
            }
            for (int gap = 0; gap < gaps; gap++) {
                parted[cell(gap, shown[gap])] += rows - before - rowsBy[gap];
            }
        }

        private void lastPass(int depth, int code) {
            int gap = code >> 1;
            int colour = trial.colourBehind(gap, code & 1);
            if (colour == NONE || !suits(gap, colour)) {
                return;
            }
            if (rows == 0) {
                path[depth] = code;
                System.arraycopy(path, 0, first, 0, MOST_AHEAD);
            }
            rows++;
            rowsBy[gap]++;
            parted[cell(gap, colour)]++;
        }
    }

    // ---- games

    private static final class Play {
        /** How many COLOURS SHOW in the end by best play. */
        private static int worth(Green trial, int turns, boolean caller) {
            if (turns <= 0) {
                return trial.coloursShown();
            }
            int best = worth(trial, turns - 1, !caller);
            int codes = 2 * trial.gaps();
            for (int code = 0; code < codes; code++) {
                int made = trial.makePass(code);
                if (made != NONE) {
                    int other = worth(trial, turns - 1, !caller);
                    best = caller ? Math.max(best, other) : Math.min(best, other);
                    trial.takeBack(made);
                }
            }
            return best;
        }

        /** The caller's first PASS, or NONE. */
        static int opening(Green trial, int turns) {
            int best = NONE;
            int move = NONE;
            int codes = 2 * trial.gaps();
            for (int code = 0; code < codes; code++) {
                int made = trial.makePass(code);
                if (made != NONE) {
                    int other = worth(trial, turns - 1, false);
                    trial.takeBack(made);
                    if (other > best) {
                        best = other;
                        move = code;
                    }
                }
            }
            return worth(trial, turns - 1, false) > best ? NONE : move;
        }
    }

    // ---- odds

    /** The FRACTION told latest, and the ways that are counted for one. */
    private static final class Chances {
        long part;
        long whole = 1;
        private final long[] ways = new long[MOST_SLIPPED + 1];
        private final long[] nextWays = new long[MOST_SLIPPED + 1];

        void set(long newPart, long newWhole) {
            long divisor = commonDivisor(newPart, newWhole);
            part = divisor == 0 ? 0 : newPart / divisor;
            whole = divisor == 0 ? 1 : newWhole / divisor;
        }

        private static long commonDivisor(long a, long b) {
            long large = a;
            long small = b;
            // two longs take fewer than a hundred rounds
            for (int round = 0; round < 100 && small != 0; round++) {
                long rest = large % small;
                large = small;
                small = rest;
            }
            return large;
        }

        /** Sixteen ways for each of n PASSES, in odds of which it slips: those with k slips or more. */
        void setSlips(int odds, int n, int k) {
            Arrays.fill(ways, 0L);
            ways[0] = 1;
            long all = 1;
            for (int pass = 1; pass <= n; pass++) {
                for (int many = pass; many > 0; many--) {
                    ways[many] = ways[many] * (MOST_ODDS - odds) + ways[many - 1] * odds;
                }
                ways[0] *= MOST_ODDS - odds;
                all *= MOST_ODDS;
            }
            long enough = 0;
            for (int many = k; many <= n; many++) {
                enough += ways[many];
            }
            set(enough, all);
        }

        /** A way for each GAP and each of k PASSES: those that lead from one PLACE to another. */
        void setDrift(Green green, int from, int to, int k) {
            Arrays.fill(ways, 0L);
            ways[from] = 1;
            long all = 1;
            int gaps = green.gaps();
            for (int pass = 0; pass < k; pass++) {
                Arrays.fill(nextWays, 0L);
                for (int place = 0; place < green.dancers; place++) {
                    for (int gap = 0; gap < gaps; gap++) {
                        nextWays[green.placeBehind(place, gap)] += ways[place];
                    }
                }
                System.arraycopy(nextWays, 0, ways, 0, green.dancers);
                all *= gaps;
            }
            set(ways[to], all);
        }
    }

    // ---- FEASTS

    /** STEPS in the order of the text; those within a when or loop stand right behind it. */
    private static final class Feasts {
        boolean there;
        int count;
        final int[] kinds = new int[MOST_STEPS];
        final int[] tests = new int[MOST_STEPS];
        final int[] firsts = new int[MOST_STEPS];
        final int[] seconds = new int[MOST_STEPS];
        /** By STEP: the one behind it and all within it. */
        final int[] behind = new int[MOST_STEPS];

        void clear() {
            there = false;
            count = 0;
        }

        void copyFrom(Feasts other) {
            there = other.there;
            count = other.count;
            System.arraycopy(other.kinds, 0, kinds, 0, count);
            System.arraycopy(other.tests, 0, tests, 0, count);
            System.arraycopy(other.firsts, 0, firsts, 0, count);
            System.arraycopy(other.seconds, 0, seconds, 0, count);
            System.arraycopy(other.behind, 0, behind, 0, count);
        }
    }

    private static final class Life {
        int steps;
        int missed;
        int left;
        private Green green;
        private Feasts feasts;
        private int drawn;
        private boolean halted;

        void begin(Green where, Feasts what, int seed) {
            green = where;
            feasts = what;
            drawn = seed;
            steps = 0;
            missed = 0;
            left = 0;
            halted = false;
        }

        /** Does the STEPS from one on, ahead of another one. */
        private void doBlock(int from, int to, int depth) {
            for (int step = from; step < to && !halted; step = Math.max(step + 1, feasts.behind[step])) {
                if (steps >= MOST_LIVED || depth > MOST_NESTED) {
                    left = 1;
                    halted = true;
                } else {
                    steps++;
                    doStep(step, depth);
                }
            }
        }

        private void doStep(int step, int depth) {
            int first = feasts.firsts[step];
            int second = feasts.seconds[step];
            switch (feasts.kinds[step]) {
                case PASS: count(green.makePass(2 * first + second) != NONE); break;
                case BACK: count(green.doBack()); break;
                case WEAVE: count(green.weaveTimes(first) > 0); break;
                case PAINT: count(repaint(first, second)); break;
                case ANY: count(passAny()); break;
                case WHEN:
                    if (holds(feasts.tests[step], first, second)) {
                        doBlock(step + 1, feasts.behind[step], depth + 1);
                    }
                    break;
                case LOOP:
                    for (int round = 0; round < first && !halted; round++) {
                        doBlock(step + 1, feasts.behind[step], depth + 1);
                    }
                    break;
                default: halted = true; break;
            }
        }

        private void count(boolean done) {
            if (!done) {
                missed++;
            }
        }

        private boolean repaint(int dancer, int colour) {
            if (green.colours[dancer] == colour) {
                return false;
            }
            green.colours[dancer] = colour;
            return true;
        }

        private boolean passAny() {
            int gaps = green.gaps();
            if (gaps == 0) {
                return false;
            }
            int gap = drawBy(gaps);
            int over = drawBy(2);
            boolean slips = drawBy(16) < green.odds;
            return green.makePass(2 * gap + (slips ? 1 - over : over)) != NONE;
        }

        private int drawBy(int n) {
            drawn = (drawn * 3269 + 11493) % 65536;
            return n > 0 ? drawn / 8 % n : 0;
        }

        private boolean holds(int test, int first, int second) {
            switch (test) {
                case HOME: return green.places[first] == first;
                case AT: return green.places[first] == second;
                case SHOWS: return green.colourIn(first, green.plait.size) == second;
                default: return compares(first, second);
            }
        }

        private boolean compares(int sign, int number) {
            if (sign == '<') {
                return green.plait.size < number;
            }
            return sign == '>' ? green.plait.size > number : green.plait.size == number;
        }
    }

    // ---- texts

    /** The TOKENS of a text, one at a time, and the first FAULT that is found. */
    private static final class Tokens {
        static final int TEXT_END = 0;
        static final int WORD = 1;
        static final int NUMBER = 2;
        static final int SIGN = 3;
        static final int BAD = 4;

        int faultKind;
        int faultPlace;
        int kind;
        /** The letters of a WORD, five bits each; 0 for one that is too long for a NAME. */
        long word;
        int number;
        int sign;
        private byte[] text;
        private int length;
        private int start;
        private int at;
        private final long[] reserved = new long[RESERVED_MANY];

        Tokens() {
            int many = 0;
            long packed = 0;
            for (int k = 0; k < RESERVED_WORDS.length() && many < RESERVED_MANY; k++) {
                char letter = RESERVED_WORDS.charAt(k);
                if (letter == ' ') {
                    reserved[many] = packed;
                    many++;
                    packed = 0;
                } else {
                    packed = packed << 5 | letter - 'a' + 1;
                }
            }
        }

        void begin(byte[] bytes, int many) {
            text = bytes;
            length = many;
            at = 0;
            faultKind = 0;
            faultPlace = NONE;
            advance();
        }

        void advance() {
            while (at < length && (text[at] == 10 || text[at] == 32)) {
                at++;
            }
            start = at;
            if (at >= length) {
                kind = TEXT_END;
            } else if (text[at] >= 'a' && text[at] <= 'z') {
                advanceWord();
            } else if (text[at] >= '0' && text[at] <= '9') {
                advanceNumber();
            } else {
                sign = text[at];
                at++;
                kind = sign == ';' || sign == '<' || sign == '>' || sign == '=' ? SIGN : BAD;
            }
        }

        private void advanceWord() {
            kind = WORD;
            word = 0;
            while (at < length && text[at] >= 'a' && text[at] <= 'z') {
                word = at - start < MOST_LETTERS ? word << 5 | text[at] - 'a' + 1 : 0;
                at++;
            }
        }

        private void advanceNumber() {
            number = 0;
            while (at < length && text[at] >= '0' && text[at] <= '9') {
                number = at - start < MOST_DIGITS ? number * 10 + text[at] - '0' : 0;
                at++;
            }
            kind = at - start > MOST_DIGITS ? BAD : NUMBER;
        }

        /** A FAULT at this TOKEN; gives false, so that a reader can end with it. */
        boolean blame(int faulty) {
            if (faultKind == 0) {
                faultKind = kind == BAD ? NO_TOKEN : faulty;
                faultPlace = start;
            }
            return false;
        }

        /** Which of the reserved WORDS this TOKEN is, or NONE. */
        int reservedWord() {
            if (kind == WORD) {
                for (int k = 0; k < RESERVED_MANY; k++) {
                    if (reserved[k] == word) {
                        return k;
                    }
                }
            }
            return NONE;
        }

        boolean takeReserved(int which) {
            if (reservedWord() != which) {
                return blame(MISPLACED);
            }
            advance();
            return true;
        }

        boolean takeSemicolon() {
            if (kind != SIGN || sign != ';') {
                return blame(MISPLACED);
            }
            advance();
            return true;
        }

        boolean isName() {
            return kind == WORD && word != 0 && reservedWord() == NONE;
        }

        /** A NUMBER, or NONE with a FAULT. */
        int takeNumber(int least, int most) {
            if (kind != NUMBER) {
                blame(MISPLACED);
                return NONE;
            }
            if (!isWithin(number, least, most)) {
                blame(NUMBER_OUT);
                return NONE;
            }
            int taken = number;
            advance();
            return taken;
        }
    }

    private static final class Reader {
        int faultKind;
        int faultPlace;
        private final Tokens tokens = new Tokens();
        private Green green;
        private Feasts feasts;
        private boolean oddsTold;
        private boolean longTold;
        private boolean passTold;
        private int open;
        private final int[] opened = new int[MOST_NESTED];

        void readGreen(byte[] text, int length, Green into) {
            green = into;
            green.clear();
            oddsTold = false;
            longTold = false;
            passTold = false;
            tokens.begin(text, length);
            boolean fine = true;
            for (int part = 0; part <= length && fine && tokens.kind != Tokens.TEXT_END; part++) {
                fine = takePart();
            }
            green.forgetDone();
            closeReading();
        }

        void readFeasts(byte[] text, int length, Green at, Feasts into) {
            green = at;
            feasts = into;
            feasts.clear();
            feasts.there = true;
            open = 0;
            tokens.begin(text, length);
            boolean fine = true;
            for (int step = 0; step <= length && fine && tokens.kind != Tokens.TEXT_END; step++) {
                fine = tokens.reservedWord() == END ? takeEnd() : takeStep();
            }
            if (fine && open > 0) {
                tokens.blame(MISPLACED);
            }
            closeReading();
        }

        private void closeReading() {
            faultKind = tokens.faultKind;
            faultPlace = tokens.faultPlace;
        }

        // the parts of a GREEN

        private boolean takePart() {
            switch (tokens.reservedWord()) {
                case ODDS: return takeOdds();
                case LONG: return takeLong();
                case DANCER: return takeDancer();
                case PASS: return takeTextPass();
                default: return tokens.blame(MISPLACED);
            }
        }

        private boolean takeOdds() {
            if (oddsTold) {
                return tokens.blame(NOT_NOW);
            }
            oddsTold = true;
            tokens.advance();
            int odds = tokens.takeNumber(0, MOST_ODDS);
            if (odds == NONE) {
                return false;
            }
            green.odds = odds;
            return tokens.takeSemicolon();
        }

        private boolean takeLong() {
            if (longTold || passTold) {
                return tokens.blame(NOT_NOW);
            }
            longTold = true;
            tokens.advance();
            int longest = tokens.takeNumber(1, MOST_LONG);
            if (longest == NONE) {
                return false;
            }
            green.longest = longest;
            return tokens.takeSemicolon();
        }

        private boolean takeDancer() {
            if (passTold) {
                return tokens.blame(NOT_NOW);
            }
            if (green.dancers >= MOST_DANCERS) {
                return tokens.blame(TOO_MUCH);
            }
            tokens.advance();
            if (!tokens.isName()) {
                return tokens.blame(MISPLACED);
            }
            long name = tokens.word;
            if (green.named(name) != NONE) {
                return tokens.blame(WRONG_NAME);
            }
            tokens.advance();
            if (!tokens.takeReserved(COLOUR)) {
                return false;
            }
            int colour = tokens.takeNumber(0, MOST_COLOUR);
            if (colour == NONE) {
                return false;
            }
            green.join(name, colour);
            return tokens.takeSemicolon();
        }

        private boolean takeTextPass() {
            passTold = true;
            tokens.advance();
            int gap = tokens.takeNumber(0, green.gaps() - 1);
            if (gap == NONE) {
                return false;
            }
            int over = howOver();
            if (over == NONE) {
                return tokens.blame(MISPLACED);
            }
            if (green.makePass(2 * gap + over) == NONE) {
                return tokens.blame(NOT_NOW);
            }
            tokens.advance();
            return tokens.takeSemicolon();
        }

        /** 1 if this TOKEN is over, 0 if under, else NONE. */
        private int howOver() {
            int how = tokens.reservedWord();
            if (how == OVER) {
                return 1;
            }
            return how == UNDER ? 0 : NONE;
        }

        // the STEPS of FEASTS

        private boolean takeEnd() {
            if (open == 0) {
                return tokens.blame(MISPLACED);
            }
            open--;
            feasts.behind[opened[open]] = feasts.count;
            tokens.advance();
            return tokens.takeSemicolon();
        }

        private boolean takeStep() {
            int kind = tokens.reservedWord();
            if (!isStep(kind)) {
                return tokens.blame(MISPLACED);
            }
            if (feasts.count >= MOST_STEPS) {
                return tokens.blame(TOO_MUCH);
            }
            boolean opens = kind == WHEN || kind == LOOP;
            if (opens && open >= MOST_NESTED) {
                return tokens.blame(TOO_DEEP);
            }
            int step = feasts.count;
            feasts.kinds[step] = kind;
            feasts.behind[step] = step + 1;
            feasts.count++;
            if (opens) {
                opened[open] = step;
                open++;
            }
            tokens.advance();
            int form = kind == WHEN ? testForm(step) : kind;
            return takeRest(step, form) && tokens.takeSemicolon();
        }

        private static boolean isStep(int word) {
            return word == PASS || word == BACK || word == WEAVE || word == PAINT
                    || word == ANY || word == WHEN || word == LOOP || word == STOP;
        }

        /** The WORD that begins a TEST, or WHEN if none stands here. */
        private int testForm(int step) {
            int test = tokens.reservedWord();
            if (test != HOME && test != AT && test != SHOWS && test != PLAIT) {
                return WHEN;
            }
            feasts.tests[step] = test;
            tokens.advance();
            return test;
        }

        /** What stands behind the WORD of a STEP, or of its TEST. */
        private boolean takeRest(int step, int form) {
            switch (form) {
                case PASS: return takeFirst(step, 0, green.gaps() - 1) && takeHow(step);
                case WEAVE: return takeFirst(step, 1, MOST_WEAVES);
                case PAINT: return takeKnown(step) && takeSecond(step, 0, MOST_COLOUR);
                case LOOP: return takeFirst(step, 1, MOST_LOOPS);
                case HOME: return takeKnown(step);
                case AT: return takeKnown(step) && takeSecond(step, 0, green.dancers - 1);
                case SHOWS: return takeFirst(step, 0, green.gaps() - 1) && takeSecond(step, 0, NO_COLOUR);
                case PLAIT: return takeCompares(step) && takeSecond(step, 0, MOST_PASSES);
                case WHEN: return tokens.blame(MISPLACED);
                default: return true;
            }
        }

        private boolean takeFirst(int step, int least, int most) {
            int number = tokens.takeNumber(least, most);
            feasts.firsts[step] = number;
            return number != NONE;
        }

        private boolean takeSecond(int step, int least, int most) {
            int number = tokens.takeNumber(least, most);
            feasts.seconds[step] = number;
            return number != NONE;
        }

        private boolean takeHow(int step) {
            int over = howOver();
            if (over == NONE) {
                return tokens.blame(MISPLACED);
            }
            feasts.seconds[step] = over;
            tokens.advance();
            return true;
        }

        private boolean takeKnown(int step) {
            if (!tokens.isName()) {
                return tokens.blame(MISPLACED);
            }
            int dancer = green.named(tokens.word);
            if (dancer == NONE) {
                return tokens.blame(WRONG_NAME);
            }
            feasts.firsts[step] = dancer;
            tokens.advance();
            return true;
        }

        private boolean takeCompares(int step) {
            if (tokens.kind != Tokens.SIGN || tokens.sign == ';') {
                return tokens.blame(MISPLACED);
            }
            feasts.firsts[step] = tokens.sign;
            tokens.advance();
            return true;
        }
    }
}
