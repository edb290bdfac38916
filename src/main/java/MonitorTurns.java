import java.util.Arrays;

/**
 * Threads of small programs that go turn by turn: they enter things and wait on them, sleep, join,
 * are interrupted, and meet failures by handlers or end by them. The document's words in capitals
 * (THING, TURN, TO GET IN, ..) are used in the comments as it uses them.
 */
public final class MonitorTurns {
    public static final int BAD = -1, STATE = -2, FULL = -3, NONE = -4, IDLE = -5, STUCK = -6, OVER = -7;

    private static final int MOST_THINGS = 32;
    private static final int MOST_PLACES = 12;
    private static final int PROGRAMS = 8;
    private static final int MOST_ACTS = 40;
    private static final int THREADS = 6;
    private static final int MOST_RANK = 9;
    /** How many REGISTERS a THREAD has, and how many HANDS. */
    private static final int SLOTS = 6;
    private static final int MOST_HANDLERS = 8;
    private static final int MOST_TURNS = 60;
    private static final int LOGGED_TURNS = 60;
    private static final int MOST_FAILURES = 3000;
    private static final int LONGEST_STAY = 1000000;

    private static final int PLAIN = 0;
    private static final int BOX = 1;
    private static final int CRATE = 2;
    private static final int CHEST = 3;
    private static final int ROW_OF_INTS = 4;
    private static final int ROW_OF_BYTES = 5;
    private static final int ROW_OF_THINGS = 6;
    private static final int ROW_OF_BOXES = 7;
    private static final int BOX_MARK = 3;
    private static final int CRATE_MARK = 5;

    private static final int IS_NONE = 0;
    private static final int IS_NEW = 1;
    private static final int IS_READY = 2;
    private static final int IS_BLOCKED = 3;
    private static final int IS_WAITING = 4;
    private static final int IS_SLEEPING = 5;
    private static final int IS_JOINING = 6;
    private static final int IS_ENDED = 7;

    /** What an ACT that did not fail gives in the place of a failure's KIND. */
    private static final int FINE = 0;
    private static final int NULL_FAILURE = 1;
    private static final int INDEX_FAILURE = 2;
    private static final int CAST_FAILURE = 3;
    private static final int STORE_FAILURE = 4;
    private static final int SIZE_FAILURE = 5;
    private static final int ZERO_FAILURE = 6;
    private static final int OWN_FAILURE = 7;
    private static final int OWNER_FAILURE = 8;
    private static final int BROKEN_FAILURE = 9;
    private static final int STATE_FAILURE = 10;
    private static final int ROOM_FAILURE = 11;

    private final Shelf shelf;
    private final Crew crew;
    private final Acts acts;
    private final Tally tally;
    private final Program[] programs;
    private int ruleInForce;
    /** The THREAD of the latest TURN that had one; at first the last one, so that THREAD 0 comes first. */
    private int latest;

    public MonitorTurns() {
        shelf = new Shelf();
        crew = new Crew(shelf);
        acts = new Acts(shelf, crew);
        tally = new Tally();
        programs = new Program[PROGRAMS];
        for (int p = 0; p < PROGRAMS; p++) {
            programs[p] = new Program();
        }
        latest = THREADS - 1;
    }

    // ---- things

    public int thing(int kind, int n) {
        if (kind < PLAIN || kind > ROW_OF_BOXES) {
            return BAD;
        }
        boolean row = kind >= ROW_OF_INTS;
        if (row && (n < 0 || n > MOST_PLACES)) {
            return BAD;
        }
        return shelf.isFull() ? FULL : shelf.make(kind, row ? n : 0);
    }

    public int of(int thing, int what) {
        Thing t = shelf.at(thing);
        if (t == null) {
            return BAD;
        }
        switch (what) {
            case 0:
                return t.kind;
            case 1:
                return t.isRow() ? t.places.length : t.count;
            case 2:
                return t.owner;
            case 3:
                return t.depth;
            case 4:
                return crew.howMany(IS_BLOCKED, t.number);
            case 5:
                return crew.howMany(IS_WAITING, t.number);
            default:
                return BAD;
        }
    }

    public int item(int row, int i) {
        Thing t = shelf.at(row);
        return t == null || !t.hasPlace(i) ? BAD : t.places[i];
    }

    public int weigh(int thing) {
        Thing t = shelf.at(thing);
        return t == null ? BAD : shelf.weightOf(t);
    }

    public int trace(int i) {
        return shelf.bodyThatBegan(i);
    }

    // ---- programs, threads

    public int act(int p, int op, int a, int b, int c) {
        Program program = programAt(p);
        if (program == null || !Program.isWellNamed(op, a, b, c)) {
            return BAD;
        }
        if (crew.isInUse(program)) {
            return STATE;
        }
        if (program.size >= MOST_ACTS) {
            return FULL;
        }
        program.append(op, a, b, c);
        return program.size;
    }

    public int wipe(int p) {
        Program program = programAt(p);
        if (program == null) {
            return BAD;
        }
        if (crew.isInUse(program)) {
            return STATE;
        }
        int had = program.size;
        program.size = 0;
        return had;
    }

    public int thread(int t, int p, int rank) {
        Strand s = crew.at(t);
        Program program = programAt(p);
        if (s == null || program == null || rank < 0 || rank > MOST_RANK) {
            return BAD;
        }
        if (s.isUnderWay()) {
            return STATE;
        }
        s.renew(program, rank);
        return 1;
    }

    public int set(int t, int r, int v) {
        Strand s = crew.at(t);
        if (s == null || s.state == IS_NONE || !isSlot(r)) {
            return BAD;
        }
        s.keep(r, v);
        return 1;
    }

    public int give(int t, int h, int thing) {
        Strand s = crew.at(t);
        if (s == null || s.state == IS_NONE || !isSlot(h)) {
            return BAD;
        }
        if (thing != NONE && shelf.at(thing) == null) {
            return BAD;
        }
        s.grasp(h, thing);
        return 1;
    }

    public int start(int t) {
        Strand s = crew.at(t);
        if (s == null) {
            return BAD;
        }
        if (s.state != IS_NEW) {
            return STATE;
        }
        s.become(IS_READY, NONE, NONE);
        return 1;
    }

    public int broken(int t) {
        Strand s = crew.at(t);
        if (s == null) {
            return BAD;
        }
        if (!s.isUnderWay()) {
            return 0;
        }
        crew.interrupt(s);
        return 1;
    }

    // ---- turns

    public int rule(int r) {
        if (r < 0 || r > 1) {
            return BAD;
        }
        int was = ruleInForce;
        ruleInForce = r;
        return was;
    }

    public int order(int o) {
        if (o < 0 || o > 2) {
            return BAD;
        }
        int was = crew.orderInForce;
        crew.orderInForce = o;
        return was;
    }

    public int turn() {
        if (tally.allFailures >= MOST_FAILURES) {
            return FULL;
        }
        if (crew.isOver()) {
            return OVER;
        }
        return crew.isStuck() ? STUCK : takeTurn();
    }

    public int run(int n) {
        if (n < 1 || n > MOST_TURNS) {
            return BAD;
        }
        if (tally.allFailures >= MOST_FAILURES) {
            return FULL;
        }
        int taken = 0;
        while (taken < n && !crew.isOver() && !crew.isStuck()) {
            takeTurn();
            taken++;
        }
        return taken;
    }

    // ---- what is told

    public int told(int t, int what) {
        Strand s = crew.at(t);
        if (s == null) {
            return BAD;
        }
        switch (what) {
            case 0:
                return s.state;
            case 1:
                return s.place;
            case 2:
                return s.endKind;
            case 3:
                return s.endNumber;
            case 4:
                return s.flag ? 1 : 0;
            case 5:
                return s.target;
            case 6:
                return s.until;
            case 7:
                return s.handlers.size;
            case 8:
                return s.begun;
            default:
                return BAD;
        }
    }

    public int register(int t, int r) {
        Strand s = crew.at(t);
        return s == null || !isSlot(r) ? BAD : s.kept(r);
    }

    public int hand(int t, int h) {
        Strand s = crew.at(t);
        return s == null || !isSlot(h) ? BAD : s.held(h);
    }

    public int ring(int k) {
        return k < 0 ? BAD : crew.inRing(k);
    }

    public int log(int k, int what) {
        return k < 0 || what < 0 || what > 2 ? BAD : tally.logged(k, what);
    }

    public int count(int what) {
        if (what >= 1 && what <= ROOM_FAILURE) {
            return tally.failures[what];
        }
        switch (what) {
            case 0:
                return crew.time;
            case 12:
                return tally.allFailures;
            case 13:
                return shelf.size;
            case 14:
                return crew.howManyUnderWay();
            case 15:
                return acts.begun;
            case 16:
                return tally.met;
            default:
                return BAD;
        }
    }

    private static boolean isSlot(int i) {
        return i >= 0 && i < SLOTS;
    }

    private Program programAt(int p) {
        return p >= 0 && p < PROGRAMS ? programs[p] : null;
    }

    private int takeTurn() {
        crew.passTime();
        Strand s = ruleInForce == 0 ? crew.firstReadyBehind(latest) : crew.readyOfGreatestRank();
        if (s == null) {
            return IDLE;
        }
        latest = s.number;
        int place = s.place;
        int failure = acts.perform(s);
        tally.note(s.number, place, failure);
        if (failure != FINE) {
            s.place = place;
            fail(s, failure);
        }
        if (s.state == IS_READY && s.isAtEnd()) {
            crew.end(s, FINE, 0);
        }
        return s.number;
    }

    private void fail(Strand s, int kind) {
        int number = kind == OWN_FAILURE ? s.raised : 0;
        int handler = s.handlers.latestFor(kind);
        tally.countFailure(kind, handler != NONE);
        if (handler == NONE) {
            crew.end(s, kind, number);
            return;
        }
        s.caughtKind = kind;
        s.caughtNumber = number;
        s.jump(s.handlers.placeOf(handler));
        s.handlers.size = handler;
    }

    /** A THING; the PLACES of a ROW of THINGS hold their numbers, NONE for NOTHING. */
    private static final class Thing {
        final int number;
        final int kind;
        final int[] places;
        int count;
        /** The THREAD that is in it, or NONE. */
        int owner = NONE;
        int depth;

        Thing(int number, int kind, int[] places) {
            this.number = number;
            this.kind = kind;
            this.places = places;
        }

        void letIn(int newOwner, int newDepth) {
            owner = newOwner;
            depth = newDepth;
        }

        boolean isBox() {
            return kind >= BOX && kind <= CHEST;
        }

        boolean isCrate() {
            return kind == CRATE || kind == CHEST;
        }

        boolean isRow() {
            return kind >= ROW_OF_INTS;
        }

        boolean isRowOfNumbers() {
            return kind == ROW_OF_INTS || kind == ROW_OF_BYTES;
        }

        boolean isRowOfThings() {
            return kind == ROW_OF_THINGS || kind == ROW_OF_BOXES;
        }

        /** Whether this ROW is of a kind that takes from that ROW; what FITS a ROW of BOXES is not looked at. */
        boolean takesFrom(Thing row) {
            if (kind == ROW_OF_INTS) {
                return row.kind == ROW_OF_INTS || row.kind == ROW_OF_BYTES;
            }
            return kind == ROW_OF_BYTES ? row.kind == ROW_OF_BYTES : row.kind >= ROW_OF_THINGS;
        }

        boolean hasPlace(int i) {
            return i >= 0 && i < places.length;
        }
    }

    /** All THINGS, and THE TRACE. */
    private static final class Shelf {
        // THE TRACE hangs on the KIND alone, so the KIND is kept and the BODIES are looked up
        static final int[] PLAIN_BODIES = {1};
        static final int[] BOX_BODIES = {2, 6, 8};
        static final int[] CRATE_BODIES = {3, 2, 6, 9};
        static final int[] CHEST_BODIES = {4, 3, 2, 7, 9};
        static final int[] ROW_BODIES = {5};

        final Thing[] things = new Thing[MOST_THINGS];
        int size;
        /** The KIND of the THING that was weighed last, or NONE. */
        int weighedKind = NONE;

        Thing at(int number) {
            return number >= 0 && number < size ? things[number] : null;
        }

        boolean isFull() {
            return size >= MOST_THINGS;
        }

        int make(int kind, int places) {
            if (isFull() || places < 0 || places > MOST_PLACES) {
                return NONE;
            }
            Thing made = new Thing(size, kind, new int[places]);
            if (made.isRowOfThings()) {
                Arrays.fill(made.places, NONE);
            }
            things[size] = made;
            size++;
            return made.number;
        }

        int weightOf(Thing t) {
            weighedKind = t.kind;
            switch (t.kind) {
                case PLAIN:
                    return 1;
                case BOX:
                    return t.count + BOX_MARK + 1;
                case CRATE:
                    return 2 * (t.count + CRATE_MARK + BOX_MARK + 1);
                case CHEST:
                    return 2 * (t.count + 10 * (CRATE_MARK + BOX_MARK)) - 1;
                default:
                    return t.places.length;
            }
        }

        int bodyThatBegan(int i) {
            if (weighedKind == NONE) {
                return NONE;
            }
            int[] bodies = bodiesOf(weighedKind);
            return i >= 0 && i < bodies.length ? bodies[i] : NONE;
        }

        private static int[] bodiesOf(int kind) {
            switch (kind) {
                case PLAIN:
                    return PLAIN_BODIES;
                case BOX:
                    return BOX_BODIES;
                case CRATE:
                    return CRATE_BODIES;
                case CHEST:
                    return CHEST_BODIES;
                default:
                    return ROW_BODIES;
            }
        }

        /** Whether a THING, or NOTHING, FITS a ROW of THINGS. */
        boolean fits(int number, Thing row) {
            Thing t = at(number);
            return t == null || row.kind == ROW_OF_THINGS || t.isBox();
        }
    }

    /** A row of ACTS, four numbers each. */
    private static final class Program {
        static final int WIDTH = 4;
        static final int OPS = 37;
        /** The greatest register, hand, place, kind and m that a, b, c may name; FREE: not looked at. */
        static final int R = 5, H = 5, P = 40, K = 7, M = 4095, FREE = -1;
        static final int[] MOST_NAMED = {
            R, FREE, FREE, // 0 SET
            R, R, FREE, // 1 ADD
            R, R, FREE, // 2 LESS
            R, R, FREE, // 3 TIMES
            R, R, FREE, // 4 BY
            R, R, R, // 5 BELOW
            P, FREE, FREE, // 6 GO
            P, R, FREE, // 7 GOZ
            H, R, FREE, // 8 HOLD
            H, K, R, // 9 NEW
            R, H, H, // 10 SAME
            H, H, FREE, // 11 PASS
            R, H, FREE, // 12 COUNT
            H, R, FREE, // 13 BUMP
            R, H, FREE, // 14 WEIGH
            R, H, FREE, // 15 MARK
            R, H, FREE, // 16 SIZE
            R, H, R, // 17 READ
            H, R, R, // 18 WRITE
            H, H, R, // 19 TAKE
            H, R, H, // 20 PUT
            H, H, R, // 21 COPY
            H, FREE, FREE, // 22 ENTER
            H, FREE, FREE, // 23 LEAVE
            H, R, FREE, // 24 WAIT
            H, FREE, FREE, // 25 TELL
            H, FREE, FREE, // 26 TELLALL
            R, FREE, FREE, // 27 SLEEP
            R, FREE, FREE, // 28 JOIN
            R, FREE, FREE, // 29 START
            R, FREE, FREE, // 30 BREAK
            R, FREE, FREE, // 31 ASK
            R, FREE, FREE, // 32 RAISE
            P, M, FREE, // 33 TRY
            FREE, FREE, FREE, // 34 DONE
            R, R, FREE, // 35 CAUGHT
            FREE, FREE, FREE, // 36 REST
        };

        final int[] numbers = new int[MOST_ACTS * WIDTH];
        int size;

        static boolean isWellNamed(int op, int a, int b, int c) {
            return op >= 0 && op < OPS && mayName(3 * op, a) && mayName(3 * op + 1, b) && mayName(3 * op + 2, c);
        }

        private static boolean mayName(int column, int value) {
            if (column < 0 || column >= MOST_NAMED.length) {
                return false;
            }
            int most = MOST_NAMED[column];
            return most == FREE || value >= 0 && value <= most;
        }

        void append(int op, int a, int b, int c) {
            int first = size * WIDTH;
            if (first < 0 || first + WIDTH > numbers.length) {
                return;
            }
            numbers[first] = op;
            numbers[first + 1] = a;
            numbers[first + 2] = b;
            numbers[first + 3] = c;
            size++;
        }

        /** Of the ACT at a PLACE: 0 the OP, 1 a, 2 b, 3 c. */
        int numberAt(int place, int column) {
            int i = place * WIDTH + column;
            return i >= 0 && i < numbers.length ? numbers[i] : 0;
        }
    }

    /** The HANDLERS of a THREAD, the latest one last. */
    private static final class Handlers {
        final int[] places = new int[MOST_HANDLERS];
        final int[] masks = new int[MOST_HANDLERS];
        int size;

        boolean push(int place, int mask) {
            if (size < 0 || size >= MOST_HANDLERS) {
                return false;
            }
            places[size] = place;
            masks[size] = mask;
            size++;
            return true;
        }

        int latestFor(int kind) {
            for (int i = Math.min(size, MOST_HANDLERS) - 1; i >= 0; i--) {
                if ((masks[i] >> kind & 1) == 1) {
                    return i;
                }
            }
            return NONE;
        }

        int placeOf(int handler) {
            return handler >= 0 && handler < MOST_HANDLERS ? places[handler] : 0;
        }
    }

    /** A THREAD. */
    private static final class Strand {
        final int number;
        final int[] registers = new int[SLOTS];
        final int[] hands = new int[SLOTS];
        final Handlers handlers = new Handlers();
        int state = IS_NONE;
        Program program;
        int rank;
        int place;
        boolean flag;
        /** Whether it FAILS by BROKEN in its next TURN. */
        boolean breaks;
        /** The NUMBER of the OWN failure that it raised last. */
        int raised;
        int caughtKind;
        int caughtNumber;
        int endKind;
        int endNumber;
        /** The THING by which it is BLOCKED, on which it WAITS, the THREAD that it joins, or NONE. */
        int target = NONE;
        /** The TIME till which it SLEEPS or WAITS, or NONE. */
        int until = NONE;
        /** The DEPTH with which it is TO GET IN. */
        int depth;
        /** Tells who began first to be BLOCKED, to be WAITING. */
        int stamp;
        /** How many ACTS it began. */
        int begun;

        Strand(int number) {
            this.number = number;
            Arrays.fill(hands, NONE);
        }

        void renew(Program newProgram, int newRank) {
            become(IS_NEW, NONE, NONE);
            program = newProgram;
            rank = newRank;
            place = 0;
            Arrays.fill(registers, 0);
            Arrays.fill(hands, NONE);
            handlers.size = 0;
            flag = false;
            breaks = false;
            caughtKind = 0;
            caughtNumber = 0;
            endKind = 0;
            endNumber = 0;
            begun = 0;
        }

        boolean isUnderWay() {
            return state >= IS_READY && state <= IS_JOINING;
        }

        boolean isAtEnd() {
            return program == null || place >= program.size;
        }

        void jump(int to) {
            place = program == null ? 0 : Math.min(to, program.size);
        }

        void become(int newState, int newTarget, int newUntil) {
            state = newState;
            target = newTarget;
            until = newUntil;
        }

        boolean takeFlag() {
            boolean was = flag;
            flag = false;
            return was;
        }

        int kept(int r) {
            return isSlot(r) ? registers[r] : 0;
        }

        void keep(int r, int v) {
            if (isSlot(r)) {
                registers[r] = v;
            }
        }

        int held(int h) {
            return isSlot(h) ? hands[h] : NONE;
        }

        void grasp(int h, int thing) {
            if (isSlot(h)) {
                hands[h] = thing;
            }
        }
    }

    /** All THREADS, TIME, and who is in which THING. */
    private static final class Crew {
        final Shelf shelf;
        final Strand[] strands = new Strand[THREADS];
        int time;
        int orderInForce;
        int stamps;

        Crew(Shelf shelf) {
            this.shelf = shelf;
            for (int t = 0; t < THREADS; t++) {
                strands[t] = new Strand(t);
            }
        }

        Strand at(int t) {
            return t >= 0 && t < THREADS ? strands[t] : null;
        }

        boolean isInUse(Program program) {
            for (Strand s : strands) {
                if (s.program == program && s.isUnderWay()) {
                    return true;
                }
            }
            return false;
        }

        int howManyUnderWay() {
            int found = 0;
            for (Strand s : strands) {
                if (s.isUnderWay()) {
                    found++;
                }
            }
            return found;
        }

        int howMany(int state, int target) {
            int found = 0;
            for (Strand s : strands) {
                if (s.state == state && s.target == target) {
                    found++;
                }
            }
            return found;
        }

        boolean isOver() {
            return howManyUnderWay() == 0;
        }

        boolean isStuck() {
            for (Strand s : strands) {
                if (s.state == IS_READY || s.until != NONE) {
                    return false;
                }
            }
            return !isOver();
        }

        void passTime() {
            time++;
            for (Strand s : strands) {
                if (s.until == NONE || s.until > time) {
                    continue;
                }
                if (s.state == IS_WAITING) {
                    getIn(s, shelf.at(s.target), s.depth);
                } else {
                    s.become(IS_READY, NONE, NONE);
                }
            }
        }

        Strand firstReadyBehind(int latest) {
            for (int step = 1; step <= THREADS; step++) {
                Strand s = at(Math.floorMod(latest + step, THREADS));
                if (s != null && s.state == IS_READY) {
                    return s;
                }
            }
            return null;
        }

        Strand readyOfGreatestRank() {
            Strand best = null;
            for (Strand s : strands) {
                if (s.state == IS_READY && (best == null || s.rank > best.rank)) {
                    best = s;
                }
            }
            return best;
        }

        void getIn(Strand s, Thing t, int depth) {
            if (t == null) {
                return;
            }
            if (t.owner == NONE) {
                t.letIn(s.number, depth);
                s.become(IS_READY, NONE, NONE);
                return;
            }
            s.become(IS_BLOCKED, t.number, NONE);
            s.depth = depth;
            stamp(s);
        }

        private void stamp(Strand s) {
            s.stamp = stamps;
            stamps++;
        }

        /** THE THING IS LEFT. */
        void vacate(Thing t) {
            t.letIn(NONE, 0);
            Strand s = next(IS_BLOCKED, t.number);
            if (s != null) {
                t.letIn(s.number, s.depth);
                s.become(IS_READY, NONE, NONE);
            }
        }

        /** The THREAD that is in the THING is WAITING on it; that the THING IS LEFT comes behind. */
        void await(Strand s, Thing t, int until) {
            s.depth = t.depth;
            s.become(IS_WAITING, t.number, until);
            stamp(s);
        }

        void tellNext(Thing t) {
            Strand s = next(IS_WAITING, t.number);
            if (s != null) {
                getIn(s, t, s.depth);
            }
        }

        void tellEach(Thing t) {
            for (Strand s : strands) {
                if (s.state == IS_WAITING && s.target == t.number) {
                    getIn(s, t, s.depth);
                }
            }
        }

        private Strand next(int state, int target) {
            Strand best = null;
            for (Strand s : strands) {
                if (s.state != state || s.target != target) {
                    continue;
                }
                boolean earlier = best == null || s.stamp < best.stamp;
                // by ORDER 2 the least THREAD stays the best one, as it is come upon first
                if (best == null || orderInForce == 0 && earlier || orderInForce == 1 && !earlier) {
                    best = s;
                }
            }
            return best;
        }

        /** The TIME at which a stay that is begun now and lasts so long is over. */
        int timeAfter(int stay) {
            return time + Math.min(stay, LONGEST_STAY);
        }

        void interrupt(Strand s) {
            switch (s.state) {
                case IS_READY:
                case IS_BLOCKED:
                    s.flag = true;
                    break;
                case IS_WAITING:
                    s.breaks = true;
                    getIn(s, shelf.at(s.target), s.depth);
                    break;
                case IS_SLEEPING:
                case IS_JOINING:
                    s.breaks = true;
                    s.become(IS_READY, NONE, NONE);
                    break;
                default:
                    break;
            }
        }

        void end(Strand ended, int kind, int number) {
            ended.become(IS_ENDED, NONE, NONE);
            ended.endKind = kind;
            ended.endNumber = number;
            for (int i = 0; i < shelf.size; i++) {
                Thing t = shelf.at(i);
                if (t != null && t.owner == ended.number) {
                    vacate(t);
                }
            }
            for (Strand s : strands) {
                if (s.state == IS_JOINING && s.target == ended.number) {
                    s.become(IS_READY, NONE, NONE);
                }
            }
        }

        int inRing(int k) {
            for (int t = 0; t < THREADS; t++) {
                int length = wayBackTo(t);
                if (length > 0) {
                    return k < length ? follow(t, k) : NONE;
                }
            }
            return NONE;
        }

        /** After how many steps a THREAD comes back to itself; 0: it does not. */
        private int wayBackTo(int t) {
            for (int steps = 1; steps <= THREADS; steps++) {
                if (follow(t, steps) == t) {
                    return steps;
                }
            }
            return 0;
        }

        private int follow(int t, int steps) {
            int at = t;
            for (int i = 0; i < steps; i++) {
                at = hangsOn(at);
            }
            return at;
        }

        private int hangsOn(int t) {
            Strand s = at(t);
            if (s == null) {
                return NONE;
            }
            if (s.state == IS_JOINING) {
                return s.target;
            }
            Thing blocking = s.state == IS_BLOCKED ? shelf.at(s.target) : null;
            return blocking == null ? NONE : blocking.owner;
        }
    }

    /** Does the ACTS: each answers the KIND of the failure that came, or FINE. */
    private static final class Acts {
        // the OPS, in the groups by which they are done
        static final int SET = 0, ADD = 1, LESS = 2, TIMES = 3, BY = 4, BELOW = 5, GO = 6, GOZ = 7;
        static final int HOLD = 8, NEW = 9, SAME = 10, PASS = 11, COUNT = 12, BUMP = 13, WEIGH = 14, MARK = 15;
        static final int SIZE = 16, READ = 17, WRITE = 18, TAKE = 19, PUT = 20, COPY = 21;
        static final int ENTER = 22, LEAVE = 23, WAIT = 24, TELL = 25, TELLALL = 26;
        static final int SLEEP = 27, JOIN = 28, START = 29, BREAK = 30;
        static final int ASK = 31, RAISE = 32, TRY = 33, DONE = 34, CAUGHT = 35, REST = 36;

        final Shelf shelf;
        final Crew crew;
        /** How many ACTS began ever. */
        int begun;

        Acts(Shelf shelf, Crew crew) {
            this.shelf = shelf;
            this.crew = crew;
        }

        /** What the CHOSEN THREAD does in its TURN, but for what a failure or the END brings. */
        int perform(Strand s) {
            if (s.breaks) {
                s.breaks = false;
                return BROKEN_FAILURE;
            }
            Program program = s.program;
            if (program == null || s.isAtEnd()) {
                return FINE;
            }
            int op = program.numberAt(s.place, 0);
            int a = program.numberAt(s.place, 1);
            int b = program.numberAt(s.place, 2);
            int c = program.numberAt(s.place, 3);
            begun++;
            s.begun++;
            // a THREAD that stops at an ACT has it behind it, so PLACE goes on ahead of the ACT
            s.place++;
            if (op <= GOZ) {
                return reckon(s, op, a, b, c);
            }
            if (op <= MARK) {
                return useThings(s, op, a, b, c);
            }
            if (op <= COPY) {
                return useRows(s, op, a, b, c);
            }
            if (op <= TELLALL) {
                return useMonitors(s, op, a, b);
            }
            return op <= BREAK ? useThreads(s, op, a) : useHandlers(s, op, a, b);
        }

        private int reckon(Strand s, int op, int a, int b, int c) {
            switch (op) {
                case SET:
                    s.keep(a, b);
                    return FINE;
                case ADD:
                    s.keep(a, s.kept(a) + s.kept(b));
                    return FINE;
                case LESS:
                    s.keep(a, s.kept(a) - s.kept(b));
                    return FINE;
                case TIMES:
                    s.keep(a, s.kept(a) * s.kept(b));
                    return FINE;
                case BY:
                    return divide(s, a, s.kept(b));
                case BELOW:
                    s.keep(a, s.kept(b) < s.kept(c) ? 1 : 0);
                    return FINE;
                case GO:
                    s.jump(a);
                    return FINE;
                default: // GOZ
                    if (s.kept(b) == 0) {
                        s.jump(a);
                    }
                    return FINE;
            }
        }

        private int divide(Strand s, int a, int by) {
            if (by == 0) {
                return ZERO_FAILURE;
            }
            s.keep(a, s.kept(a) / by);
            return FINE;
        }

        private int useThings(Strand s, int op, int a, int b, int c) {
            switch (op) {
                case HOLD:
                    return holdNumber(s, a, s.kept(b));
                case NEW:
                    return makeThing(s, a, b, s.kept(c));
                case SAME:
                    s.keep(a, s.held(b) == s.held(c) ? 1 : 0);
                    return FINE;
                case PASS:
                    s.grasp(a, s.held(b));
                    return FINE;
                case COUNT:
                    return readCount(s, a, inHand(s, b));
                case BUMP:
                    return bump(inHand(s, a), s.kept(b));
                case WEIGH:
                    return weighInto(s, a, inHand(s, b));
                default: // MARK
                    return readMark(s, a, inHand(s, b));
            }
        }

        private Thing inHand(Strand s, int h) {
            return shelf.at(s.held(h));
        }

        private int holdNumber(Strand s, int a, int number) {
            if (number != -1 && shelf.at(number) == null) {
                return INDEX_FAILURE;
            }
            s.grasp(a, number == -1 ? NONE : number);
            return FINE;
        }

        private int makeThing(Strand s, int a, int kind, int size) {
            int places = kind >= ROW_OF_INTS ? size : 0;
            if (shelf.isFull() || places > MOST_PLACES) {
                return ROOM_FAILURE;
            }
            if (places < 0) {
                return SIZE_FAILURE;
            }
            s.grasp(a, shelf.make(kind, places));
            return FINE;
        }

        private int readCount(Strand s, int a, Thing t) {
            if (t == null) {
                return NULL_FAILURE;
            }
            if (!t.isBox()) {
                return CAST_FAILURE;
            }
            s.keep(a, t.count);
            return FINE;
        }

        private int bump(Thing t, int by) {
            if (t == null) {
                return NULL_FAILURE;
            }
            if (!t.isBox()) {
                return CAST_FAILURE;
            }
            t.count += by;
            return FINE;
        }

        private int weighInto(Strand s, int a, Thing t) {
            if (t == null) {
                return NULL_FAILURE;
            }
            s.keep(a, shelf.weightOf(t));
            return FINE;
        }

        private int readMark(Strand s, int a, Thing t) {
            if (t == null) {
                return NULL_FAILURE;
            }
            if (!t.isCrate()) {
                return CAST_FAILURE;
            }
            s.keep(a, CRATE_MARK);
            return FINE;
        }

        private int useRows(Strand s, int op, int a, int b, int c) {
            switch (op) {
                case SIZE:
                    return readSize(s, a, inHand(s, b));
                case READ:
                    return readNumber(s, a, inHand(s, b), s.kept(c));
                case WRITE:
                    return writeNumber(inHand(s, a), s.kept(b), s.kept(c));
                case TAKE:
                    return takeThing(s, a, inHand(s, b), s.kept(c));
                case PUT:
                    return putThing(inHand(s, a), s.kept(b), s.held(c));
                default: // COPY
                    return copy(inHand(s, a), inHand(s, b), s.kept(c));
            }
        }

        private int readSize(Strand s, int a, Thing row) {
            if (row == null) {
                return NULL_FAILURE;
            }
            if (!row.isRow()) {
                return CAST_FAILURE;
            }
            s.keep(a, row.places.length);
            return FINE;
        }

        private int readNumber(Strand s, int a, Thing row, int i) {
            if (row == null) {
                return NULL_FAILURE;
            }
            if (!row.isRowOfNumbers()) {
                return CAST_FAILURE;
            }
            if (!row.hasPlace(i)) {
                return INDEX_FAILURE;
            }
            s.keep(a, row.places[i]);
            return FINE;
        }

        private int writeNumber(Thing row, int i, int value) {
            if (row == null) {
                return NULL_FAILURE;
            }
            if (!row.isRowOfNumbers()) {
                return CAST_FAILURE;
            }
            if (!row.hasPlace(i)) {
                return INDEX_FAILURE;
            }
            row.places[i] = row.kind == ROW_OF_BYTES ? (byte) value : value;
            return FINE;
        }

        private int takeThing(Strand s, int a, Thing row, int i) {
            if (row == null) {
                return NULL_FAILURE;
            }
            if (!row.isRowOfThings()) {
                return CAST_FAILURE;
            }
            if (!row.hasPlace(i)) {
                return INDEX_FAILURE;
            }
            s.grasp(a, row.places[i]);
            return FINE;
        }

        private int putThing(Thing row, int i, int number) {
            if (row == null) {
                return NULL_FAILURE;
            }
            if (!row.isRowOfThings()) {
                return CAST_FAILURE;
            }
            if (!row.hasPlace(i)) {
                return INDEX_FAILURE;
            }
            if (!shelf.fits(number, row)) {
                return STORE_FAILURE;
            }
            row.places[i] = number;
            return FINE;
        }

        private int copy(Thing from, Thing to, int first) {
            if (from != null && !from.isRow() || to != null && !to.isRow()) {
                return CAST_FAILURE;
            }
            if (from == null || to == null) {
                return NULL_FAILURE;
            }
            for (int i = 0; i < from.places.length; i++) {
                int at = first + i;
                if (!to.hasPlace(at)) {
                    return INDEX_FAILURE;
                }
                // looked at only now: an earlier one may have come to this very PLACE
                int value = from.places[i];
                if (!to.takesFrom(from) || to.isRowOfThings() && !shelf.fits(value, to)) {
                    return STORE_FAILURE;
                }
                to.places[at] = value;
            }
            return FINE;
        }

        private int useMonitors(Strand s, int op, int a, int b) {
            Thing t = inHand(s, a);
            if (t == null) {
                return NULL_FAILURE;
            }
            boolean in = t.owner == s.number;
            if (op == ENTER) {
                return enter(s, t, in);
            }
            if (!in) {
                return OWNER_FAILURE;
            }
            switch (op) {
                case LEAVE:
                    return leave(t);
                case WAIT:
                    return waitOn(s, t, s.kept(b));
                case TELL:
                    crew.tellNext(t);
                    return FINE;
                default: // TELLALL
                    crew.tellEach(t);
                    return FINE;
            }
        }

        private int enter(Strand s, Thing t, boolean in) {
            if (in) {
                t.depth++;
            } else {
                crew.getIn(s, t, 1);
            }
            return FINE;
        }

        private int leave(Thing t) {
            t.depth--;
            if (t.depth == 0) {
                crew.vacate(t);
            }
            return FINE;
        }

        private int waitOn(Strand s, Thing t, int stay) {
            if (s.takeFlag()) {
                return BROKEN_FAILURE;
            }
            crew.await(s, t, stay > 0 ? crew.timeAfter(stay) : NONE);
            crew.vacate(t);
            return FINE;
        }

        private int useThreads(Strand s, int op, int a) {
            int number = s.kept(a);
            if (op == SLEEP) {
                return sleep(s, number);
            }
            Strand other = crew.at(number);
            if (other == null) {
                return INDEX_FAILURE;
            }
            switch (op) {
                case JOIN:
                    return join(s, other);
                case START:
                    return startNew(other);
                default: // BREAK
                    crew.interrupt(other);
                    return FINE;
            }
        }

        private int sleep(Strand s, int stay) {
            if (s.takeFlag()) {
                return BROKEN_FAILURE;
            }
            if (stay > 0) {
                s.become(IS_SLEEPING, NONE, crew.timeAfter(stay));
            }
            return FINE;
        }

        private int join(Strand s, Strand other) {
            if (!other.isUnderWay()) {
                return FINE;
            }
            if (s.takeFlag()) {
                return BROKEN_FAILURE;
            }
            s.become(IS_JOINING, other.number, NONE);
            return FINE;
        }

        private int startNew(Strand other) {
            if (other.state != IS_NEW) {
                return STATE_FAILURE;
            }
            other.become(IS_READY, NONE, NONE);
            return FINE;
        }

        private int useHandlers(Strand s, int op, int a, int b) {
            switch (op) {
                case ASK:
                    s.keep(a, s.takeFlag() ? 1 : 0);
                    return FINE;
                case RAISE:
                    s.raised = s.kept(a);
                    return OWN_FAILURE;
                case TRY:
                    return s.handlers.push(a, b) ? FINE : ROOM_FAILURE;
                case DONE:
                    s.handlers.size = Math.max(s.handlers.size - 1, 0);
                    return FINE;
                case CAUGHT:
                    s.keep(a, s.caughtKind);
                    s.keep(b, s.caughtNumber);
                    return FINE;
                default: // REST
                    return FINE;
            }
        }
    }

    /** What is told of failures and of the TURNS that went by. */
    private static final class Tally {
        static final int WIDTH = 3;

        final int[] failures = new int[ROOM_FAILURE + 1];
        final int[] turns = new int[LOGGED_TURNS * WIDTH];
        int allFailures;
        int met;
        int turnsNoted;

        void countFailure(int kind, boolean isMet) {
            if (kind >= 0 && kind < failures.length) {
                failures[kind]++;
            }
            allFailures++;
            if (isMet) {
                met++;
            }
        }

        void note(int thread, int place, int failure) {
            int first = Math.floorMod(turnsNoted, LOGGED_TURNS) * WIDTH;
            turns[first] = thread;
            turns[first + 1] = place;
            turns[first + 2] = failure;
            turnsNoted++;
        }

        int logged(int k, int what) {
            if (k < 0 || k >= LOGGED_TURNS || k >= turnsNoted || what < 0 || what >= WIDTH) {
                return NONE;
            }
            return turns[Math.floorMod(turnsNoted - 1 - k, LOGGED_TURNS) * WIDTH + what];
        }
    }
}
