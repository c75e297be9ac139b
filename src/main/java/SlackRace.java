import java.util.Arrays;

/**
 * A strait between two seas through which the tide runs. README.md says how it is used; the
 * document's words (END, FLOW, SLACK ..) are used here as they stand there.
 */
public final class SlackRace {
    public static final int NONE = -1;
    public static final int NOTHING = -100000;

    private static final int BAD_NUMBER = -1;
    private static final int NOT_THERE = -2;
    private static final int NO_ROOM = -5;
    private static final int BAD_TEXT = -6;

    private static final int MINUTES = 1440;
    private static final int HOUR = 60;
    private static final int HOURS = 24;
    private static final int SEA_SORTS = 3;
    private static final int MOONS = 4;
    private static final int MOON_SORTS = 3;
    private static final int CELLS = 50;
    private static final int COLUMNS = 10;
    private static final int KINDS = 6;
    private static final int STEPS = 144;
    private static final int STEP_MINUTES = 10;
    private static final int TAPE_ROOM = 400;
    private static final int LAW_ROOM = 6;
    private static final int BOAT_ROOM = 6;
    private static final int SHIP_ROOM = 6;
    private static final int FLOAT_ROOM = 12;
    private static final int PLAN_ROOM = 40;
    private static final int IMAGES = 2;
    private static final int WIDEST_SLIP = 60;
    private static final int MOST_TURBINES = 20;
    private static final int FASTEST = 2000;
    private static final int PLAIN_GLASS = 1013;

    private static final int MEAN = 0;
    private static final int ANSWER = 1;
    private static final int SET = 2;
    private static final int[] SEA_LEAST = {-500, 0, -5};
    private static final int[] SEA_MOST = {500, 3, 5};

    private static final int HEIGHT = 0;
    private static final int PERIOD = 1;
    private static final int PHASE = 2;
    private static final int[] MOON_LEAST = {0, 60, 0};
    private static final int[] MOON_MOST = {500, 2000, 1999};
    private static final int[] MOON_FIRST = {0, 720, 0};

    private static final int PUSH = 0;
    private static final int RUB = 1;
    private static final int MASS = 2;
    private static final int STILL = 3;
    private static final int START = 4;
    private static final int LEAD = 5;
    private static final int NEED = 6;
    private static final int DRAG = 7;
    private static final int ERROR = 8;
    private static final int WIND = 9;
    private static final int GLASS = 10;
    private static final int[] TERM_LEAST = {0, 0, 1, 0, -1000, 0, 1, 0, 0, -40, 950};
    private static final int[] TERM_MOST = {50, 50, 500, 500, 1000, 60, 500, 20, 50, 40, 1050};
    private static final int[] TERM_FIRST = {8, 10, 40, 50, 0, 20, 100, 2, 5, 0, 1013};

    private static final int ROCK = 0;
    private static final int MAIN = 1;
    private static final int EDDY = 2;
    private static final int TAIL = 3;
    private static final int BOIL = 4;
    private static final int STANDING = 5;

    private static final int STAY = 0;
    private static final int NEXT_COLUMN = 1;
    private static final int COLUMN_AHEAD = 2;
    private static final int NEXT_ROW = 3;
    private static final int ROW_AHEAD = 4;

    private final State state = new State();
    private final State[] images = {new State(), new State()};
    private final boolean[] kept = new boolean[IMAGES];
    private final Tape tape = new Tape();
    private final Reader reader = new Reader(tape);
    private final Water water = new Water(state);
    private final Ways ways = new Ways(state, water);
    private final Locks locks = new Locks(state, water);
    private final Soundings soundings = new Soundings(state, water);
    private final Rule rule = new Rule(water);
    private final Drift drift = new Drift(state, water);
    private final int[] refusals = new int[4];
    private int refusedBy = 0;
    private int foulBytes = 0;
    private int faultPlace = NONE;

    public SlackRace() {
    }

    public int sea(int end, int what, int value) {
        if (!isWithin(end, 0, 1) || !isWithin(what, 0, SEA_SORTS - 1)
                || !isWithin(value, SEA_LEAST[what], SEA_MOST[what])) {
            return refuse(BAD_NUMBER);
        }
        int at = end * SEA_SORTS + what;
        int was = state.seas[at];
        state.seas[at] = value;
        forgetLevels();
        return grant(was);
    }

    public int moon(int end, int moon, int what, int value) {
        if (!isWithin(end, 0, 1) || !isMoon(moon) || !isWithin(what, 0, MOON_SORTS - 1)
                || !isWithin(value, MOON_LEAST[what], MOON_MOST[what])) {
            return refuse(BAD_NUMBER);
        }
        int at = moonPlace(end, moon) + what;
        int was = state.moons[at];
        state.moons[at] = value;
        forgetLevels();
        return grant(was);
    }

    public int terms(int what, int value) {
        if (!isWithin(what, 0, GLASS) || !isWithin(value, TERM_LEAST[what], TERM_MOST[what])) {
            return refuse(BAD_NUMBER);
        }
        int was = state.terms[what];
        state.terms[what] = value;
        forgetFlows();
        return grant(was);
    }

    public int feed(int a, int b, int c, int d, int e) {
        if (tape.length + 20 > TAPE_ROOM) {
            return NONE;
        }
        tape.add(a);
        tape.add(b);
        tape.add(c);
        tape.add(d);
        tape.add(e);
        return tape.length;
    }

    public int end(int n) {
        if (!isWithin(n, 0, tape.length)) {
            return NONE;
        }
        tape.length = n;
        return n;
    }

    public int row() {
        if (tape.length == 0) {
            return refuse(BAD_TEXT);
        }
        int came = 0;
        for (int i = 0; i < tape.length; i++) {
            if (i < CELLS && tape.bytes[i] < KINDS) {
                state.kinds[i] = tape.bytes[i];
                came++;
            }
        }
        foulBytes = tape.length - came;
        tape.length = 0;
        return grant(came);
    }

    public int foul() {
        return foulBytes;
    }

    public int law() {
        if (state.lawCount >= LAW_ROOM) {
            tape.length = 0;
            return refuse(NO_ROOM);
        }
        Law read = reader.readLaw();
        faultPlace = reader.fault;
        tape.length = 0;
        if (read == null) {
            return refuse(BAD_TEXT);
        }
        state.laws[state.lawCount] = read;
        state.lawCount++;
        return grant(state.lawCount - 1);
    }

    public int fault() {
        return faultPlace;
    }

    public int force(int law) {
        if (!isWithin(law, NONE, state.lawCount - 1)) {
            return refuse(NOT_THERE);
        }
        int was = state.inForce;
        state.inForce = law;
        forgetFlows();
        return grant(was);
    }

    public int level(int end, int minute) {
        if (!isWithin(end, 0, 1) || !isMinute(minute)) {
            return NOTHING;
        }
        water.freshenTides();
        return water.levelToday(end, minute);
    }

    public int flow(int minute) {
        if (!isMinute(minute)) {
            return NOTHING;
        }
        water.freshenToday();
        return water.today[minute];
    }

    public int kind(int cell, int kind) {
        if (!isCell(cell) || !isWithin(kind, 0, KINDS - 1)) {
            return refuse(BAD_NUMBER);
        }
        int was = state.kinds[cell];
        state.kinds[cell] = kind;
        return grant(was);
    }

    public int cell(int cell, int minute, int what) {
        if (!isCell(cell) || !isMinute(minute) || !isWithin(what, 0, 2)) {
            return NOTHING;
        }
        int kind = state.kinds[cell];
        if (what == 2) {
            return kind;
        }
        water.freshenToday();
        return what == 0 ? water.flowOf(kind, minute) : water.whiteOf(kind, minute);
    }

    public int slack(int i, int what) {
        if (!isWithin(what, 0, 3)) {
            return NOTHING;
        }
        water.freshenToday();
        if (i == NONE) {
            return water.slacksOf(water.today);
        }
        int first = water.slackStart(water.today, i);
        if (first < 0) {
            return NOTHING;
        }
        switch (what) {
            case 0:
                return first;
            case 1:
                return water.slackLength(water.today, first);
            case 2:
                return water.levelToday(0, first) - water.levelToday(1, first);
            default:
                return water.sinceGreatest(first);
        }
    }

    public int late(int i) {
        water.freshenToday();
        water.freshenCalm();
        int first = water.slackStart(water.today, i);
        int calm = water.slackStart(water.calm, i);
        return first < 0 || calm < 0 ? NOTHING : first - calm;
    }

    public int boat(int pace, int bears) {
        if (!isWithin(pace, 1, 1500) || !isWithin(bears, 0, 99)) {
            return refuse(BAD_NUMBER);
        }
        if (state.boatCount >= BOAT_ROOM) {
            return refuse(NO_ROOM);
        }
        state.paces[state.boatCount] = pace;
        state.bears[state.boatCount] = bears;
        state.boatCount++;
        return grant(state.boatCount - 1);
    }

    public int soonest(int boat, int step, int from, int to) {
        if (!isBoat(boat) || !isStep(step) || !isCell(from) || !isCell(to)) {
            return NONE;
        }
        water.freshenToday();
        ways.survey(boat);
        return ways.firstStepAt(step, from, to);
    }

    public int way(int boat, int step, int from, int to, int at) {
        if (!isBoat(boat) || !isStep(step) || !isCell(from) || !isCell(to) || !isStep(at)) {
            return NONE;
        }
        water.freshenToday();
        ways.survey(boat);
        return ways.cellOnWay(step, from, to, at);
    }

    public int calmest(int boat, int step, int from, int to) {
        if (!isBoat(boat) || !isStep(step) || !isCell(from) || !isCell(to)) {
            return NONE;
        }
        water.freshenToday();
        ways.survey(boat);
        return ways.leastWhite(step, from, to);
    }

    public int latest(int boat, int from, int to, int by) {
        if (!isBoat(boat) || !isCell(from) || !isCell(to) || !isStep(by)) {
            return NONE;
        }
        water.freshenToday();
        ways.survey(boat);
        return ways.lastStart(from, to, by);
    }

    public int move(int move) {
        if (!isWithin(move, STAY, ROW_AHEAD)) {
            return refuse(BAD_NUMBER);
        }
        if (state.planLength >= PLAN_ROOM) {
            return refuse(NO_ROOM);
        }
        state.plan[state.planLength] = move;
        state.planLength++;
        return grant(state.planLength);
    }

    public int tear() {
        int had = state.planLength;
        state.planLength = 0;
        return had;
    }

    public int done(int boat, int step, int from, int slip) {
        if (!isBoat(boat) || !isStep(step) || !isCell(from)
                || !isWithin(slip, -WIDEST_SLIP, WIDEST_SLIP)) {
            return NONE;
        }
        water.freshenToday();
        return ways.movesDone(boat, step, from, slip);
    }

    public int margin(int boat, int step, int from) {
        if (!isBoat(boat) || !isStep(step) || !isCell(from)) {
            return NONE;
        }
        water.freshenToday();
        return ways.widestSlip(boat, step, from);
    }

    public int ship(int ready, int pass, int limit) {
        if (!isMinute(ready) || !isWithin(pass, 1, 120) || !isWithin(limit, 0, FASTEST)) {
            return refuse(BAD_NUMBER);
        }
        if (state.shipCount >= SHIP_ROOM) {
            return refuse(NO_ROOM);
        }
        state.readies[state.shipCount] = ready;
        state.passes[state.shipCount] = pass;
        state.limits[state.shipCount] = limit;
        state.shipCount++;
        locks.fresh = false;
        return grant(state.shipCount - 1);
    }

    public int order(int i) {
        water.freshenToday();
        locks.freshen();
        if (i == NONE) {
            return locks.leastWait;
        }
        boolean there = isWithin(i, 0, state.shipCount - 1) && locks.leastWait != NONE;
        return there ? locks.bestOrder[i] : NONE;
    }

    public int begins(int ship) {
        if (!isWithin(ship, 0, state.shipCount - 1)) {
            return NONE;
        }
        water.freshenToday();
        locks.freshen();
        return locks.leastWait == NONE ? NONE : locks.bestBegins[ship];
    }

    public long taken(int n) {
        return isWithin(n, 0, MOST_TURBINES) ? water.takenBy(n) : NONE;
    }

    public int most(int what, int minute) {
        if (what == 0) {
            return water.bestTurbines();
        }
        if (what != 1 || !isMinute(minute)) {
            return NOTHING;
        }
        water.drive(water.bestTurbines());
        return water.driven[minute];
    }

    public int cast(int minute, int level) {
        if (!isMinute(minute) || !isWithin(level, -9999, 9999)) {
            return refuse(BAD_NUMBER);
        }
        if (state.floatCount >= FLOAT_ROOM) {
            return refuse(NO_ROOM);
        }
        state.floatMinutes[state.floatCount] = minute;
        state.floatLevels[state.floatCount] = level;
        state.floatCount++;
        soundings.ofMoon = NONE;
        return grant(state.floatCount - 1);
    }

    public int agree(int moon, int what) {
        if (!isMoon(moon) || !isWithin(what, 0, 5)) {
            return NONE;
        }
        soundings.freshen(moon);
        switch (what) {
            case 0:
                return soundings.pairs;
            case 1:
                return soundings.leastHeight;
            case 2:
                return soundings.greatestHeight;
            case 3:
                return soundings.leastPhase;
            case 4:
                return soundings.greatestPhase;
            default:
                return soundings.firstPhase;
        }
    }

    public int tells(int moon) {
        if (!isMoon(moon) || state.floatCount == 0) {
            return NONE;
        }
        soundings.freshen(moon);
        return soundings.tellingFloat();
    }

    public int right(int a, int b) {
        if (!isMinute(a) || !isMinute(b)) {
            return NONE;
        }
        water.freshenToday();
        rule.freshen();
        return rule.rightBy(a, b);
    }

    public int mark(int width) {
        if (!isWithin(width, 0, 720)) {
            return NONE;
        }
        water.freshenToday();
        rule.freshen();
        return rule.bestFor(width);
    }

    public int lost(int cell, int step, int n, int where) {
        if (!isCell(cell) || !isStep(step) || !isWithin(n, 0, 6) || !isStep(step + n)
                || !isWithin(where, 0, Drift.ASHORE) || state.kinds[cell] == ROCK) {
            return NONE;
        }
        water.freshenToday();
        return drift.chance(cell, step, n, where);
    }

    public int day(int seed) {
        if (!isWithin(seed, 0, 1000000)) {
            return refuse(BAD_NUMBER);
        }
        water.drawDay(seed);
        return grant(water.slacksOf(water.drawnDay));
    }

    public int drawn(int minute) {
        return water.drawnDay == null || !isMinute(minute) ? NOTHING : water.drawnDay[minute];
    }

    public int image(int k) {
        if (!isWithin(k, 0, IMAGES - 1)) {
            return refuse(BAD_NUMBER);
        }
        images[k].copyFrom(state);
        kept[k] = true;
        return grant(0);
    }

    public int back(int k) {
        if (!isWithin(k, 0, IMAGES - 1)) {
            return refuse(BAD_NUMBER);
        }
        if (!kept[k]) {
            return refuse(NOT_THERE);
        }
        state.copyFrom(images[k]);
        forgetLevels();
        return grant(0);
    }

    public int count(int what) {
        switch (what) {
            case 0:
                return state.boatCount;
            case 1:
                return state.shipCount;
            case 2:
                return state.lawCount;
            case 3:
                return state.planLength;
            case 4:
                return state.floatCount;
            case 5:
                return tape.length;
            case 6:
            case 7:
            case 8:
            case 9:
                return refusals[what - 6];
            case 10:
                return state.inForce;
            default:
                return NONE;
        }
    }

    public int status() {
        return refusedBy;
    }

    private int refuse(int code) {
        refusedBy = code;
        int sort = code == BAD_NUMBER ? 0 : code == NOT_THERE ? 1 : code == NO_ROOM ? 2 : 3;
        refusals[sort]++;
        return code;
    }

    private int grant(int answer) {
        refusedBy = 0;
        return answer;
    }

    private void forgetLevels() {
        water.tidesFresh = false;
        forgetFlows();
    }

    private void forgetFlows() {
        water.forgetFlows();
        ways.stepsFresh = false;
        locks.fresh = false;
        soundings.ofMoon = NONE;
        rule.fresh = false;
    }

    private boolean isBoat(int boat) {
        return isWithin(boat, 0, state.boatCount - 1);
    }

    private static boolean isMoon(int moon) {
        return isWithin(moon, 0, MOONS - 1);
    }

    private static boolean isCell(int cell) {
        return isWithin(cell, 0, CELLS - 1);
    }

    private static boolean isStep(int step) {
        return isWithin(step, 0, STEPS - 1);
    }

    private static boolean isMinute(int minute) {
        return isWithin(minute, 0, MINUTES - 1);
    }

    private static boolean isWithin(int value, int least, int greatest) {
        return value >= least && value <= greatest;
    }

    private static int nearest(int value, int least, int greatest) {
        return value < least ? least : value > greatest ? greatest : value;
    }

    private static int moonPlace(int end, int moon) {
        return (end * MOONS + moon) * MOON_SORTS;
    }

    /** WAVE of a PERIOD, which is 60 at least. */
    private static int wave(int minute, int phase, int period) {
        int x = 4000 * ((minute + phase) % period) / period;
        return x <= 2000 ? x * (2000 - x) / 1000 : -((x - 2000) * (4000 - x) / 1000);
    }

    /** What an IMAGE keeps. */
    private static final class State {
        final int[] seas = new int[2 * SEA_SORTS];
        final int[] moons = new int[2 * MOONS * MOON_SORTS];
        final int[] terms = TERM_FIRST.clone();
        final int[] kinds = new int[CELLS];
        final Law[] laws = new Law[LAW_ROOM];
        final int[] paces = new int[BOAT_ROOM];
        final int[] bears = new int[BOAT_ROOM];
        final int[] plan = new int[PLAN_ROOM];
        final int[] readies = new int[SHIP_ROOM];
        final int[] passes = new int[SHIP_ROOM];
        final int[] limits = new int[SHIP_ROOM];
        final int[] floatMinutes = new int[FLOAT_ROOM];
        final int[] floatLevels = new int[FLOAT_ROOM];
        int lawCount = 0;
        int inForce = NONE;
        int boatCount = 0;
        int planLength = 0;
        int shipCount = 0;
        int floatCount = 0;

        State() {
            for (int i = 0; i < moons.length; i++) {
                moons[i] = MOON_FIRST[i % MOON_SORTS];
            }
            Arrays.fill(kinds, MAIN);
        }

        void copyFrom(State other) {
            System.arraycopy(other.seas, 0, seas, 0, seas.length);
            System.arraycopy(other.moons, 0, moons, 0, moons.length);
            System.arraycopy(other.terms, 0, terms, 0, terms.length);
            System.arraycopy(other.kinds, 0, kinds, 0, kinds.length);
            for (int i = 0; i < LAW_ROOM; i++) {
                laws[i] = other.laws[i];
            }
            System.arraycopy(other.paces, 0, paces, 0, paces.length);
            System.arraycopy(other.bears, 0, bears, 0, bears.length);
            System.arraycopy(other.plan, 0, plan, 0, plan.length);
            System.arraycopy(other.readies, 0, readies, 0, readies.length);
            System.arraycopy(other.passes, 0, passes, 0, passes.length);
            System.arraycopy(other.limits, 0, limits, 0, limits.length);
            System.arraycopy(other.floatMinutes, 0, floatMinutes, 0, floatMinutes.length);
            System.arraycopy(other.floatLevels, 0, floatLevels, 0, floatLevels.length);
            lawCount = other.lawCount;
            inForce = other.inForce;
            boatCount = other.boatCount;
            planLength = other.planLength;
            shipCount = other.shipCount;
            floatCount = other.floatCount;
        }

        /** The LAW in FORCE, or null. */
        Law lawInForce() {
            return inForce >= 0 && inForce < lawCount ? laws[inForce] : null;
        }
    }

    private static final class Tape {
        final int[] bytes = new int[TAPE_ROOM];
        int length = 0;

        void add(int four) {
            for (int shift = 24; shift >= 0 && length < TAPE_ROOM; shift -= 8) {
                bytes[length] = (four >>> shift) & 255;
                length++;
            }
        }
    }

    /**
     * A LAW as code for a Teller: operands stand ahead of what joins them, so that no tree is
     * kept or walked. Of each CLAUSE four numbers: its HEAD, where its SUM begins, where that
     * ends and the TEST begins, where the TEST ends (the same place without one).
     */
    private static final class Law {
        static final int GAINS = 0;
        static final int WHITE = 1;
        static final int CLAUSE_SIZE = 4;

        final int[] code;
        final int[] clauses;

        Law(int[] code, int[] clauses) {
            this.code = code;
            this.clauses = clauses;
        }
    }

    /** Works out what a LAW tells. */
    private static final class Teller {
        static final int NUMBER = 0;
        static final int WORD = 1;
        static final int PLUS = 2;
        static final int MINUS = 3;
        static final int TIMES = 4;
        static final int OVER = 5;
        static final int BELOW = 6;
        static final int ABOVE = 7;
        static final int ALIKE = 8;
        static final int NOT = 9;
        static final int OR = 10;
        static final int AND = 11;
        static final int SIGN_BITS = 4;
        static final int SIGN_MASK = 15;

        static final int WORDS = 7;
        private static final int DEEPEST = 64;
        private static final long BOUND = 1000000000L;

        private final int[] words = new int[WORDS];
        private final int[] stack = new int[DEEPEST];
        int told = 0;

        void hear(int fall, int flow, int minute, int wind, int glass, int kind, int turbines) {
            words[0] = fall;
            words[1] = flow;
            words[2] = minute;
            words[3] = wind;
            words[4] = glass;
            words[5] = kind;
            words[6] = turbines;
        }

        /** Whether a CLAUSE with the HEAD HOLDS: then the last of them has told. */
        boolean tellsBy(Law law, int head) {
            int[] clauses = law.clauses;
            for (int at = clauses.length - Law.CLAUSE_SIZE; at >= 0; at -= Law.CLAUSE_SIZE) {
                if (clauses[at] != head) {
                    continue;
                }
                int sumEnd = clauses[at + 2];
                int testEnd = clauses[at + 3];
                boolean holds = testEnd == sumEnd
                        || (worksOut(law.code, sumEnd, testEnd) && stack[0] != 0);
                if (holds && worksOut(law.code, clauses[at + 1], sumEnd)) {
                    told = stack[0];
                    return true;
                }
            }
            return false;
        }

        /** Works a SUM or a TEST out, to the stack's first place; false if it is BROKEN. */
        private boolean worksOut(int[] code, int from, int to) {
            int top = -1;
            for (int at = from; at < to; at++) {
                int sign = code[at] & SIGN_MASK;
                int with = code[at] >> SIGN_BITS;
                if (sign <= WORD) {
                    if (top >= DEEPEST - 1) {
                        return false;
                    }
                    top++;
                    stack[top] = sign == NUMBER ? with : words[with % WORDS];
                } else if (sign <= ALIKE) {
                    if (top < 1 || !joins(sign, top - 1)) {
                        return false;
                    }
                    top--;
                } else if (top < 0) {
                    return false;
                } else if (sign == NOT) {
                    stack[top] = 1 - stack[top];
                } else if ((stack[top] != 0) == (sign == OR)) {
                    at = Math.max(at, with - 1);
                } else {
                    top--;
                }
            }
            return top == 0;
        }

        private boolean joins(int sign, int at) {
            long a = stack[at];
            long b = stack[at + 1];
            long joined;
            switch (sign) {
                case PLUS:
                    joined = a + b;
                    break;
                case MINUS:
                    joined = a - b;
                    break;
                case TIMES:
                    joined = a * b;
                    break;
                case OVER:
                    if (b == 0) {
                        return false;
                    }
                    joined = a / b;
                    break;
                case BELOW:
                    joined = a < b ? 1 : 0;
                    break;
                case ABOVE:
                    joined = a > b ? 1 : 0;
                    break;
                default:
                    joined = a == b ? 1 : 0;
                    break;
            }
            if (joined > BOUND || joined < -BOUND) {
                return false;
            }
            stack[at] = (int) joined;
            return true;
        }
    }

    /** Reads the TAPE as a LAW. Each read.. takes what it names, or is false with a FAULT. */
    private static final class Reader {
        private static final int END = 0;
        private static final int LETTERS = 1;
        private static final int DIGITS = 2;
        private static final int OTHER = 3;
        private static final int BLANK = 32;
        private static final int MOST_CLAUSES = 12;
        private static final int MOST_PARTS = 50;
        private static final int MOST_BRACKETS = 8;
        private static final int GREATEST_NUMBER = 1000;

        private final Tape tape;
        private final int[] code = new int[TAPE_ROOM];
        private final int[] clauses = new int[MOST_CLAUSES * Law.CLAUSE_SIZE];
        private int size = 0;
        private int clauseSize = 0;
        private int parts = 0;
        private int tokenSort = END;
        private int tokenFrom = 0;
        private int tokenTo = 0;
        int fault = NONE;

        Reader(Tape tape) {
            this.tape = tape;
        }

        /** The LAW, or null with its FAULT. */
        Law readLaw() {
            size = 0;
            clauseSize = 0;
            parts = 0;
            tokenTo = 0;
            fault = NONE;
            advance();
            for (int k = 0; k < MOST_CLAUSES; k++) {
                if (!readClause()) {
                    return null;
                }
                if (tokenSort == END) {
                    return new Law(Arrays.copyOf(code, size), Arrays.copyOf(clauses, clauseSize));
                }
                if (!isOther(';')) {
                    fail();
                    return null;
                }
                advance();
            }
            fail();
            return null;
        }

        private boolean readClause() {
            boolean gains = isWord("gains");
            if (!gains && !isWord("white")) {
                return fail();
            }
            advance();
            int from = size;
            if (!readSum(0)) {
                return false;
            }
            int sumEnd = size;
            if (isWord("if")) {
                advance();
                if (!readTest(0)) {
                    return false;
                }
            }
            if (clauseSize > clauses.length - Law.CLAUSE_SIZE) {
                return fail();
            }
            clauses[clauseSize] = gains ? Law.GAINS : Law.WHITE;
            clauses[clauseSize + 1] = from;
            clauses[clauseSize + 2] = sumEnd;
            clauses[clauseSize + 3] = size;
            clauseSize += Law.CLAUSE_SIZE;
            return true;
        }

        private boolean readTest(int depth) {
            if (!readBoth(depth)) {
                return false;
            }
            for (int k = 0; k < TAPE_ROOM && isWord("or"); k++) {
                int jump = size;
                put(Teller.OR, 0);
                advance();
                if (!readBoth(depth)) {
                    return false;
                }
                aimHere(jump, Teller.OR);
            }
            return true;
        }

        private boolean readBoth(int depth) {
            if (!readPlain(depth)) {
                return false;
            }
            for (int k = 0; k < TAPE_ROOM && isWord("and"); k++) {
                int jump = size;
                put(Teller.AND, 0);
                advance();
                if (!readPlain(depth)) {
                    return false;
                }
                aimHere(jump, Teller.AND);
            }
            return true;
        }

        private boolean readPlain(int depth) {
            boolean turned = false;
            // a row of "not" may be longer than calls may stand open
            for (int k = 0; k < TAPE_ROOM && isWord("not"); k++) {
                turned = !turned;
                advance();
            }
            if (isOther('(')) {
                if (!readBracketed(depth)) {
                    return false;
                }
            } else {
                if (!readSum(depth)) {
                    return false;
                }
                int sign = comparisonHere();
                if (sign == NONE) {
                    return fail();
                }
                advance();
                if (!readSum(depth)) {
                    return false;
                }
                put(sign, 0);
            }
            if (turned) {
                put(Teller.NOT, 0);
            }
            return true;
        }

        private boolean readBracketed(int depth) {
            if (depth >= MOST_BRACKETS) {
                return fail();
            }
            advance();
            return readTest(depth + 1) && takes(')');
        }

        private int comparisonHere() {
            return isOther('<') ? Teller.BELOW
                    : isOther('>') ? Teller.ABOVE
                    : isOther('=') ? Teller.ALIKE
                    : NONE;
        }

        private boolean readSum(int depth) {
            if (!readTerm(depth)) {
                return false;
            }
            for (int k = 0; k < TAPE_ROOM && (isOther('+') || isOther('-')); k++) {
                int sign = isOther('+') ? Teller.PLUS : Teller.MINUS;
                advance();
                if (!readTerm(depth)) {
                    return false;
                }
                put(sign, 0);
            }
            return true;
        }

        private boolean readTerm(int depth) {
            if (!readPart(depth)) {
                return false;
            }
            for (int k = 0; k < TAPE_ROOM && (isOther('*') || isOther('/')); k++) {
                int sign = isOther('*') ? Teller.TIMES : Teller.OVER;
                advance();
                if (!readPart(depth)) {
                    return false;
                }
                put(sign, 0);
            }
            return true;
        }

        private boolean readPart(int depth) {
            if (isOther('[')) {
                if (depth >= MOST_BRACKETS) {
                    return fail();
                }
                advance();
                return readSum(depth + 1) && takes(']');
            }
            int sign = tokenSort == DIGITS ? Teller.NUMBER : Teller.WORD;
            int with = tokenSort == DIGITS ? numberHere() : wordHere();
            if (with < 0 || with > GREATEST_NUMBER || parts >= MOST_PARTS) {
                return fail();
            }
            parts++;
            put(sign, with);
            advance();
            return true;
        }

        private boolean takes(char closing) {
            if (!isOther(closing)) {
                return fail();
            }
            advance();
            return true;
        }

        /** The NUMBER here; any beyond the greatest is as good as the next beyond it. */
        private int numberHere() {
            int number = 0;
            for (int i = tokenFrom; i < tokenTo; i++) {
                number = Math.min(number * 10 + tape.bytes[i] - '0', GREATEST_NUMBER + 1);
            }
            return number;
        }

        /** Which of the Teller's words stands here, or NONE. */
        private int wordHere() {
            return isWord("fall") ? 0
                    : isWord("flow") ? 1
                    : isWord("minute") ? 2
                    : isWord("wind") ? 3
                    : isWord("glass") ? 4
                    : isWord("kind") ? 5
                    : isWord("turbines") ? 6
                    : NONE;
        }

        private boolean isWord(String word) {
            if (tokenSort != LETTERS || tokenTo - tokenFrom != word.length()) {
                return false;
            }
            for (int i = 0; i < word.length(); i++) {
                if (tape.bytes[tokenFrom + i] != word.charAt(i)) {
                    return false;
                }
            }
            return true;
        }

        private boolean isOther(char sign) {
            return tokenSort == OTHER && tape.bytes[tokenFrom] == sign;
        }

        private boolean fail() {
            fault = tokenFrom;
            return false;
        }

        /** A TOKEN puts one number at most, so there are never more than bytes on the TAPE. */
        private void put(int sign, int with) {
            if (size < code.length) {
                code[size] = sign | (with << Teller.SIGN_BITS);
                size++;
            }
        }

        private void aimHere(int jump, int sign) {
            if (jump < code.length) {
                code[jump] = sign | (size << Teller.SIGN_BITS);
            }
        }

        /** Goes on to the next TOKEN. */
        private void advance() {
            int at = tokenTo;
            while (at < tape.length && tape.bytes[at] == BLANK) {
                at++;
            }
            tokenFrom = at;
            tokenSort = sortAt(at);
            if (tokenSort != END) {
                at++;
            }
            while (at < tape.length && tokenSort != OTHER && sortAt(at) == tokenSort) {
                at++;
            }
            tokenTo = at;
        }

        private int sortAt(int at) {
            if (at >= tape.length) {
                return END;
            }
            int sign = tape.bytes[at];
            return sign >= 'a' && sign <= 'z' ? LETTERS
                    : sign >= '0' && sign <= '9' ? DIGITS : OTHER;
        }
    }

    /** LEVELS and FLOWS. What is worked out is kept until something that it hangs on changes. */
    private static final class Water {
        private static final int STEEPEST_TOLD = 500;

        private final State state;
        private final Teller teller = new Teller();
        /** MEAN and MOONS of both ENDS, minute by minute: LEVELS but for the weather. */
        private final int[] tides = new int[2 * MINUTES];
        private final int[] winds = new int[HOURS];
        private final long[] takenByNumber = new long[MOST_TURBINES + 1];
        final int[] today = new int[MINUTES];
        /** Rows that few objects are asked for: null until then. The third is of the latest DAY. */
        int[] calm = null;
        int[] driven = null;
        int[] drawnDay = null;
        boolean tidesFresh = false;
        private boolean todayFresh = false;
        private boolean calmFresh = false;
        private int drivenBy = NONE;
        private int best = NONE;

        Water(State state) {
            this.state = state;
            Arrays.fill(takenByNumber, NONE);
        }

        void forgetFlows() {
            todayFresh = false;
            calmFresh = false;
            drivenBy = NONE;
            best = NONE;
            Arrays.fill(takenByNumber, NONE);
        }

        void freshenTides() {
            if (tidesFresh) {
                return;
            }
            for (int end = 0; end < 2; end++) {
                int from = end * MINUTES;
                for (int minute = 0; minute < MINUTES; minute++) {
                    tides[from + minute] = state.seas[end * SEA_SORTS + MEAN];
                }
                for (int moon = 0; moon < MOONS; moon++) {
                    addMoon(from, moonPlace(end, moon));
                }
            }
            tidesFresh = true;
        }

        private void addMoon(int from, int place) {
            int height = state.moons[place + HEIGHT];
            int period = state.moons[place + PERIOD];
            int phase = state.moons[place + PHASE];
            if (height == 0 || period <= 0) {
                return;
            }
            for (int minute = 0; minute < MINUTES; minute++) {
                tides[from + minute] += height * wave(minute, phase, period) / 1000;
            }
        }

        int levelToday(int end, int minute) {
            return levelIn(end, minute, state.terms[WIND], state.terms[GLASS]);
        }

        private int levelIn(int end, int minute, int wind, int glass) {
            return tides[end * MINUTES + minute]
                    + state.seas[end * SEA_SORTS + ANSWER] * (PLAIN_GLASS - glass)
                    + state.seas[end * SEA_SORTS + SET] * wind;
        }

        void freshenToday() {
            if (!todayFresh) {
                Arrays.fill(winds, state.terms[WIND]);
                run(today, state.terms[GLASS], 0);
                todayFresh = true;
            }
        }

        void freshenCalm() {
            if (!calmFresh) {
                Arrays.fill(winds, 0);
                calm = made(calm);
                run(calm, PLAIN_GLASS, 0);
                calmFresh = true;
            }
        }

        /** The FLOW that n TURBINES make, in driven, and what they have TAKEN. */
        void drive(int n) {
            if (drivenBy != n) {
                Arrays.fill(winds, state.terms[WIND]);
                driven = made(driven);
                run(driven, state.terms[GLASS], n);
                drivenBy = n;
                takenByNumber[n] = takenFromDriven(n);
            }
        }

        private long takenFromDriven(int n) {
            long sum = 0;
            for (int minute = 0; minute < MINUTES; minute++) {
                long flow = Math.abs(driven[minute]);
                sum += n * flow * flow * flow / 1000000;
            }
            return sum;
        }

        void drawDay(int seed) {
            int s = seed;
            for (int hour = 0; hour < HOURS; hour++) {
                s = (s * 1103 + 12345) % 1000003;
                winds[hour] = s % 41 - 20;
            }
            drawnDay = made(drawnDay);
            run(drawnDay, state.terms[GLASS], 0);
        }

        private static int[] made(int[] row) {
            return row != null ? row : new int[MINUTES];
        }

        /** The FLOW of a day with the winds that are set. */
        private void run(int[] into, int glass, int turbines) {
            freshenTides();
            int flow = state.terms[START];
            for (int minute = 0; minute < MINUTES; minute++) {
                into[minute] = flow;
                flow = nearest(flow + gain(minute, flow, glass, turbines), -FASTEST, FASTEST);
            }
        }

        private int gain(int minute, int flow, int glass, int turbines) {
            int wind = winds[minute / HOUR];
            int fall = levelIn(0, minute, wind, glass) - levelIn(1, minute, wind, glass);
            Law law = state.lawInForce();
            if (law != null) {
                teller.hear(fall, flow, minute, wind, glass, 0, turbines);
                if (teller.tellsBy(law, Law.GAINS)) {
                    return nearest(teller.told, -STEEPEST_TOLD, STEEPEST_TOLD);
                }
            }
            long rub = state.terms[RUB] + state.terms[DRAG] * turbines;
            long held = (long) flow * Math.abs(flow) * rub / 1000;
            long mass = Math.max(1, state.terms[MASS]);
            return (int) ((fall * state.terms[PUSH] - held) / mass);
        }

        /** FLOW of a CELL by its KIND; today is to be fresh. */
        int flowOf(int kind, int minute) {
            switch (kind) {
                case ROCK:
                    return 0;
                case EDDY:
                    return -today[Math.min(minute + state.terms[LEAD], MINUTES - 1)] / 2;
                case TAIL:
                    return today[minute] / 4;
                case BOIL:
                    return today[minute] * 5 / 4;
                default:
                    return today[minute];
            }
        }

        /** WHITE of a CELL by its KIND; today is to be fresh. */
        int whiteOf(int kind, int minute) {
            if (kind == ROCK) {
                return 0;
            }
            int flow = flowOf(kind, minute);
            int wind = state.terms[WIND];
            int glass = state.terms[GLASS];
            Law law = state.lawInForce();
            if (law != null) {
                int fall = levelToday(0, minute) - levelToday(1, minute);
                teller.hear(fall, flow, minute, wind, glass, kind, 0);
                if (teller.tellsBy(law, Law.WHITE)) {
                    return nearest(teller.told, 0, 99);
                }
            }
            int white = -(flow * wind / 1000);
            int shown = kind == STANDING ? white * 2
                    : kind == EDDY || kind == TAIL ? white / 2 : white;
            return nearest(shown, 0, 99);
        }

        private boolean isStill(int flow) {
            return Math.abs(flow) <= state.terms[STILL];
        }

        int slacksOf(int[] flows) {
            int slacks = 0;
            for (int minute = 0; minute < MINUTES; minute++) {
                if (beginsSlack(flows, minute)) {
                    slacks++;
                }
            }
            return slacks;
        }

        /** The first MINUTE of the i-th SLACK, or NONE. */
        int slackStart(int[] flows, int i) {
            int ahead = 0;
            for (int minute = 0; minute < MINUTES; minute++) {
                if (beginsSlack(flows, minute)) {
                    if (ahead == i) {
                        return minute;
                    }
                    ahead++;
                }
            }
            return NONE;
        }

        private boolean beginsSlack(int[] flows, int minute) {
            return isStill(flows[minute]) && (minute == 0 || !isStill(flows[minute - 1]));
        }

        int slackLength(int[] flows, int first) {
            int length = 0;
            while (first + length < MINUTES && isStill(flows[first + length])) {
                length++;
            }
            return length;
        }

        /** How long ahead of a MINUTE the LEVEL of END 0 was greatest, of it and 720 ahead. */
        int sinceGreatest(int minute) {
            int greatest = minute;
            for (int at = minute - 1; at >= 0 && at >= minute - 720; at--) {
                // the weather is the same all day: tides alone tell which is greater
                if (tides[at] > tides[greatest]) {
                    greatest = at;
                }
            }
            return minute - greatest;
        }

        boolean isSlack(int minute) {
            return isStill(today[minute]);
        }

        long takenBy(int n) {
            if (takenByNumber[n] == NONE) {
                drive(n);
            }
            return takenByNumber[n];
        }

        int bestTurbines() {
            if (best != NONE) {
                return best;
            }
            // none take nothing, whatever their FLOW
            takenByNumber[0] = 0;
            best = 0;
            for (int n = 1; n <= MOST_TURBINES; n++) {
                if (takenByNumber[n] == NONE) {
                    drive(n);
                }
                if (takenByNumber[n] > takenByNumber[best]) {
                    best = n;
                }
            }
            return best;
        }
    }

    /** Where BOATS can be and go. A set of CELLS is a long: its bit c stands for CELL c. */
    private static final class Ways {
        private static final int FAR = 1000000;
        private static final long ALL = (1L << CELLS) - 1;
        private static final long FIRST_COLUMN = 1L | 1L << 10 | 1L << 20 | 1L << 30 | 1L << 40;
        private static final long LAST_COLUMN = FIRST_COLUMN << 9;

        private final State state;
        private final Water water;
        /** FLOW and WHITE at each STEP by KIND: no CELL differs from another of its KIND. */
        private final int[] stepFlow = new int[STEPS * KINDS];
        private final int[] stepWhite = new int[STEPS * KINDS];
        private final long[] ofKind = new long[KINDS];
        /** The CELLS where the surveyed BOAT can be at each STEP. */
        private final long[] open = new long[STEPS];
        /** Those from which it can stay or change rows, go to the next column, to that ahead. */
        private final long[] holds = new long[STEPS];
        private final long[] runsOn = new long[STEPS];
        private final long[] runsBack = new long[STEPS];
        private final long[] leads = new long[STEPS];
        private final int[] evenCost = new int[CELLS];
        private final int[] oddCost = new int[CELLS];
        boolean stepsFresh = false;

        Ways(State state, Water water) {
            this.state = state;
            this.water = water;
        }

        /** Looks at all STEPS for a BOAT; today is to be fresh. */
        void survey(int boat) {
            freshenSteps();
            Arrays.fill(ofKind, 0L);
            for (int cell = 0; cell < CELLS; cell++) {
                ofKind[state.kinds[cell]] |= 1L << cell;
            }
            for (int step = 0; step < STEPS; step++) {
                surveyStep(step, state.paces[boat], state.bears[boat]);
            }
        }

        private void freshenSteps() {
            if (stepsFresh) {
                return;
            }
            for (int step = 0; step < STEPS; step++) {
                for (int kind = 0; kind < KINDS; kind++) {
                    int at = step * KINDS + kind;
                    stepFlow[at] = water.flowOf(kind, step * STEP_MINUTES);
                    stepWhite[at] = water.whiteOf(kind, step * STEP_MINUTES);
                }
            }
            stepsFresh = true;
        }

        private void surveyStep(int step, int pace, int bears) {
            long canBe = 0;
            long canHold = 0;
            long canRunOn = 0;
            long canRunBack = 0;
            for (int kind = MAIN; kind < KINDS; kind++) {
                int flow = stepFlow[step * KINDS + kind];
                long cells = ofKind[kind];
                canBe |= stepWhite[step * KINDS + kind] <= bears ? cells : 0;
                canHold |= Math.abs(flow) <= pace ? cells : 0;
                canRunOn |= pace + flow >= state.terms[NEED] ? cells : 0;
                canRunBack |= pace - flow >= state.terms[NEED] ? cells : 0;
            }
            open[step] = canBe;
            holds[step] = canHold;
            runsOn[step] = canRunOn & ~LAST_COLUMN;
            runsBack[step] = canRunBack & ~FIRST_COLUMN;
        }

        /** Where one can be at the next STEP, from any of these CELLS. */
        private long reached(long cells, int step) {
            long held = cells & holds[step];
            long all = held | held << COLUMNS | held >>> COLUMNS
                    | (cells & runsOn[step]) << 1 | (cells & runsBack[step]) >>> 1;
            return all & ALL & open[step + 1];
        }

        /** From where one can be in any of these CELLS, open at the next STEP. */
        private long reaching(long cells, int step) {
            long all = holds[step] & (cells | cells << COLUMNS | cells >>> COLUMNS)
                    | runsOn[step] & cells >>> 1 | runsBack[step] & cells << 1;
            return all & ALL & open[step];
        }

        private static boolean has(long cells, int cell) {
            return (cells >>> cell & 1L) != 0;
        }

        int firstStepAt(int step, int from, int to) {
            long cells = open[step] & 1L << from;
            for (int at = step; at < STEPS && cells != 0; at++) {
                if (has(cells, to)) {
                    return at;
                }
                cells = at < STEPS - 1 ? reached(cells, at) : 0;
            }
            return NONE;
        }

        int cellOnWay(int step, int from, int to, int at) {
            int last = firstStepAt(step, from, to);
            if (last == NONE || at < step || at > last) {
                return NONE;
            }
            leads[last] = 1L << to;
            for (int k = last - 1; k >= step; k--) {
                leads[k] = reaching(leads[k + 1], k);
            }
            int cell = from;
            for (int k = step; k < at; k++) {
                cell = lowest(reached(1L << cell, k) & leads[k + 1], cell);
            }
            return cell;
        }

        /** The lowest of the CELLS that one move can lead to. */
        private static int lowest(long cells, int from) {
            for (int cell = Math.max(0, from - COLUMNS); cell < CELLS; cell++) {
                if (has(cells, cell)) {
                    return cell;
                }
            }
            return from;
        }

        int leastWhite(int step, int from, int to) {
            if (!has(open[step], from)) {
                return NONE;
            }
            int[] now = evenCost;
            int[] next = oddCost;
            Arrays.fill(now, FAR);
            now[from] = whiteAt(from, step);
            int least = now[to];
            for (int k = step; k < STEPS - 1; k++) {
                Arrays.fill(next, FAR);
                for (int cell = 0; cell < CELLS; cell++) {
                    if (now[cell] < FAR) {
                        offer(now[cell], cell, k, next);
                    }
                }
                least = Math.min(least, next[to]);
                int[] used = now;
                now = next;
                next = used;
            }
            return least < FAR ? least : NONE;
        }

        private void offer(int cost, int cell, int step, int[] next) {
            long cells = reached(1L << cell, step);
            for (int move = STAY; move <= ROW_AHEAD; move++) {
                int to = cellBy(move, cell);
                if (to != NONE && has(cells, to)) {
                    next[to] = Math.min(next[to], cost + whiteAt(to, step + 1));
                }
            }
        }

        private int whiteAt(int cell, int step) {
            return stepWhite[step * KINDS + state.kinds[cell]];
        }

        int lastStart(int from, int to, int by) {
            long there = 1L << to;
            long cells = open[by] & there;
            for (int step = by; step >= 0; step--) {
                if (has(cells, from)) {
                    return step;
                }
                cells = step > 0 ? reaching(cells, step - 1) | open[step - 1] & there : 0;
            }
            return NONE;
        }

        /** How many moves of the PLAN can be done; today is to be fresh. */
        int movesDone(int boat, int step, int from, int slip) {
            int pace = state.paces[boat];
            int bears = state.bears[boat];
            int minute = slipped(step, slip);
            if (!isOpen(from, minute, bears)) {
                return NONE;
            }
            int cell = from;
            for (int i = 0; i < state.planLength; i++) {
                int move = state.plan[i];
                int to = cellBy(move, cell);
                if (step + i >= STEPS - 1 || to == NONE) {
                    return i;
                }
                int flow = water.flowOf(state.kinds[cell], minute);
                minute = slipped(step + i + 1, slip);
                if (!canMove(move, flow, pace) || !isOpen(to, minute, bears)) {
                    return i;
                }
                cell = to;
            }
            return state.planLength;
        }

        int widestSlip(int boat, int step, int from) {
            for (int slip = 0; slip <= WIDEST_SLIP; slip++) {
                if (movesDone(boat, step, from, slip) < state.planLength
                        || movesDone(boat, step, from, -slip) < state.planLength) {
                    return slip - 1;
                }
            }
            return WIDEST_SLIP;
        }

        private static int slipped(int step, int slip) {
            return nearest(step * STEP_MINUTES + slip, 0, MINUTES - 1);
        }

        private boolean isOpen(int cell, int minute, int bears) {
            int kind = state.kinds[cell];
            return kind != ROCK && water.whiteOf(kind, minute) <= bears;
        }

        private boolean canMove(int move, int flow, int pace) {
            switch (move) {
                case NEXT_COLUMN:
                    return pace + flow >= state.terms[NEED];
                case COLUMN_AHEAD:
                    return pace - flow >= state.terms[NEED];
                default:
                    return Math.abs(flow) <= pace;
            }
        }

        /** The CELL that a move leads to, or NONE beyond the columns or rows. */
        private static int cellBy(int move, int cell) {
            switch (move) {
                case NEXT_COLUMN:
                    return cell % COLUMNS < COLUMNS - 1 ? cell + 1 : NONE;
                case COLUMN_AHEAD:
                    return cell % COLUMNS > 0 ? cell - 1 : NONE;
                case NEXT_ROW:
                    return cell + COLUMNS < CELLS ? cell + COLUMNS : NONE;
                case ROW_AHEAD:
                    return cell >= COLUMNS ? cell - COLUMNS : NONE;
                default:
                    return cell;
            }
        }
    }

    /** SHIPS one at a time: the BEST ORDER. */
    private static final class Locks {
        private final State state;
        private final Water water;
        /** By SHIP and MINUTE: from when on it can begin; made when the first is asked for. */
        private int[] soonestBegin = null;
        private final int[] tried = new int[SHIP_ROOM];
        private final int[] triedBegins = new int[SHIP_ROOM];
        final int[] bestOrder = new int[SHIP_ROOM];
        final int[] bestBegins = new int[SHIP_ROOM];
        int leastWait = NONE;
        boolean fresh = false;

        Locks(State state, Water water) {
            this.state = state;
            this.water = water;
        }

        /** Today is to be fresh. */
        void freshen() {
            if (fresh) {
                return;
            }
            if (soonestBegin == null && state.shipCount > 0) {
                soonestBegin = new int[SHIP_ROOM * MINUTES];
            }
            for (int ship = 0; ship < state.shipCount; ship++) {
                findBegins(ship);
            }
            leastWait = NONE;
            lineUp(0, 0, 0, 0);
            fresh = true;
        }

        private void findBegins(int ship) {
            int free = 0;
            int soonest = NONE;
            for (int minute = MINUTES - 1; minute >= 0; minute--) {
                free = Math.abs(water.today[minute]) <= state.limits[ship] ? free + 1 : 0;
                if (free >= state.passes[ship]) {
                    soonest = minute;
                }
                soonestBegin[ship * MINUTES + minute] = soonest;
            }
        }

        /** Tries all ORDERS of the SHIPS that are not used yet, lower ones ahead. */
        private void lineUp(int place, int used, int minute, int waited) {
            if (place >= state.shipCount) {
                leastWait = waited;
                System.arraycopy(tried, 0, bestOrder, 0, SHIP_ROOM);
                System.arraycopy(triedBegins, 0, bestBegins, 0, SHIP_ROOM);
                return;
            }
            for (int ship = 0; ship < state.shipCount; ship++) {
                int from = Math.max(minute, state.readies[ship]);
                if ((used >> ship & 1) != 0 || from >= MINUTES) {
                    continue;
                }
                int begin = soonestBegin[ship * MINUTES + from];
                int wait = waited + begin - state.readies[ship];
                // an ORDER that comes later is better only if it waits less
                if (begin == NONE || (leastWait != NONE && wait >= leastWait)) {
                    continue;
                }
                tried[place] = ship;
                triedBegins[ship] = begin;
                lineUp(place + 1, used | 1 << ship, begin + state.passes[ship], wait);
            }
        }
    }

    /** What FLOATS tell of a MOON of END 0. */
    private static final class Soundings {
        private static final int GRAIN = 10;
        private static final int GREATEST_HEIGHT = 500;

        private final State state;
        private final Water water;
        /** How far each FLOAT is above the LEVEL without the MOON. */
        private final int[] rises = new int[FLOAT_ROOM];
        private final int[] waves = new int[FLOAT_ROOM];
        /** How many pairs AGREE without each FLOAT. */
        private final int[] without = new int[FLOAT_ROOM];
        int ofMoon = NONE;
        int pairs = 0;
        int leastHeight = NONE;
        int greatestHeight = NONE;
        int leastPhase = NONE;
        int greatestPhase = NONE;
        int firstPhase = NONE;

        Soundings(State state, Water water) {
            this.state = state;
            this.water = water;
        }

        void freshen(int moon) {
            if (ofMoon == moon) {
                return;
            }
            int place = moonPlace(0, moon);
            int period = Math.max(1, state.moons[place + PERIOD]);
            water.freshenTides();
            for (int i = 0; i < state.floatCount; i++) {
                int minute = state.floatMinutes[i];
                int moons = state.moons[place + HEIGHT]
                        * wave(minute, state.moons[place + PHASE], period) / 1000;
                rises[i] = state.floatLevels[i] - (water.levelToday(0, minute) - moons);
            }
            forgetPairs();
            for (int phase = 0; phase < period; phase += GRAIN) {
                for (int i = 0; i < state.floatCount; i++) {
                    waves[i] = wave(state.floatMinutes[i], phase, period);
                }
                for (int height = 0; height <= GREATEST_HEIGHT; height += GRAIN) {
                    weigh(height, phase);
                }
            }
            ofMoon = moon;
        }

        private void forgetPairs() {
            Arrays.fill(without, 0);
            pairs = 0;
            leastHeight = NONE;
            greatestHeight = NONE;
            leastPhase = NONE;
            greatestPhase = NONE;
            firstPhase = NONE;
        }

        private void weigh(int height, int phase) {
            int off = 0;
            int offFloat = NONE;
            for (int i = 0; i < state.floatCount && off < 2; i++) {
                if (Math.abs(height * waves[i] / 1000 - rises[i]) > state.terms[ERROR]) {
                    off++;
                    offFloat = i;
                }
            }
            if (off == 0) {
                keepPair(height, phase);
            } else if (off == 1) {
                without[offFloat]++;
            }
        }

        /** Pairs come by PHASE, then HEIGHT. */
        private void keepPair(int height, int phase) {
            pairs++;
            if (leastHeight == NONE || height < leastHeight) {
                leastHeight = height;
                firstPhase = phase;
            }
            greatestHeight = Math.max(greatestHeight, height);
            if (leastPhase == NONE) {
                leastPhase = phase;
            }
            greatestPhase = phase;
        }

        /** Pairs that AGREE with all FLOATS do so without each: the others tell them apart. */
        int tellingFloat() {
            int telling = 0;
            for (int i = 1; i < state.floatCount; i++) {
                if (without[i] > without[telling]) {
                    telling = i;
                }
            }
            return telling;
        }
    }

    /** The pilot's RULE. */
    private static final class Rule {
        private static final int NEAR = 60;

        private final Water water;
        /** Of all MINUTES less than i behind the latest HIGH: the slack ones less the others. */
        private final int[] balance = new int[MINUTES + 1];
        private int running = 0;
        private boolean hasHigh = false;
        boolean fresh = false;

        Rule(Water water) {
            this.water = water;
        }

        /** Today is to be fresh. */
        void freshen() {
            if (fresh) {
                return;
            }
            Arrays.fill(balance, 0);
            running = 0;
            hasHigh = false;
            int high = 0;
            for (int minute = NEAR; minute < MINUTES; minute++) {
                if (isHigh(minute)) {
                    high = minute;
                    hasHigh = true;
                }
                if (hasHigh) {
                    boolean slack = water.isSlack(minute);
                    balance[minute - high + 1] += slack ? 1 : -1;
                    running += slack ? 0 : 1;
                }
            }
            for (int i = 1; i <= MINUTES; i++) {
                balance[i] += balance[i - 1];
            }
            fresh = true;
        }

        private boolean isHigh(int minute) {
            if (minute < NEAR || minute + NEAR >= MINUTES) {
                return false;
            }
            int level = water.levelToday(0, minute);
            for (int k = 1; k <= NEAR; k++) {
                if (water.levelToday(0, minute - k) >= level
                        || water.levelToday(0, minute + k) > level) {
                    return false;
                }
            }
            return true;
        }

        /** A RULE that tells of no slack at all is RIGHT whenever it runs. */
        int rightBy(int a, int b) {
            return a > b ? running : running + balance[b + 1] - balance[a];
        }

        int bestFor(int width) {
            if (!hasHigh) {
                return NONE;
            }
            int best = 0;
            for (int a = 1; a < 720; a++) {
                if (rightBy(a, a + width) > rightBy(best, best + width)) {
                    best = a;
                }
            }
            return best;
        }
    }

    /** Where LOST things go. */
    private static final class Drift {
        static final int OUT = 50;
        static final int ASHORE = 51;
        private static final int PLACES = 52;
        /** Halves of hundredths: all chances of a STEP are whole numbers of these. */
        private static final int SHARES = 200;

        private final State state;
        private final Water water;
        private final long[] evenChance = new long[PLACES];
        private final long[] oddChance = new long[PLACES];

        Drift(State state, Water water) {
            this.state = state;
            this.water = water;
        }

        /** In millionths; today is to be fresh. */
        int chance(int cell, int step, int n, int where) {
            long[] now = evenChance;
            long[] next = oddChance;
            Arrays.fill(now, 0L);
            now[cell] = 1;
            long whole = 1;
            for (int k = 0; k < n; k++) {
                Arrays.fill(next, 0L);
                next[OUT] = now[OUT] * SHARES;
                next[ASHORE] = now[ASHORE] * SHARES;
                for (int from = 0; from < CELLS; from++) {
                    if (now[from] != 0) {
                        spread(now[from], from, (step + k) * STEP_MINUTES, next);
                    }
                }
                whole *= SHARES;
                long[] used = now;
                now = next;
                next = used;
            }
            // whole is 200 to the n: it either divides a million, or a million divides it
            long millionths = whole <= 1000000 ? now[where] * (1000000 / whole)
                    : now[where] / (whole / 1000000);
            return (int) millionths;
        }

        private void spread(long chance, int from, int minute, long[] next) {
            int flow = water.flowOf(state.kinds[from], minute);
            int carried = Math.min(100, Math.abs(flow) / 10);
            int column = from % COLUMNS + (flow > 0 ? 1 : -1);
            boolean out = column < 0 || column >= COLUMNS;
            int along = out ? OUT : landing(flow > 0 ? from + 1 : from - 1);
            next[along] += chance * 2 * carried;
            next[landing(from + COLUMNS)] += chance * (100 - carried);
            next[landing(from - COLUMNS)] += chance * (100 - carried);
        }

        private int landing(int cell) {
            boolean afloat = isWithin(cell, 0, CELLS - 1) && state.kinds[cell] != ROCK;
            return afloat ? cell : ASHORE;
        }
    }
}
