/** The ACTS 22 to 30, BROKEN, NEXT, ENDS (part 3 of the terms): a test for each sentence that names an edge. */
public final class EdgesOfMonitorsTest extends Scenes {
    private static final Due DUE = new Due("EdgesOfMonitorsTest");
    private static final int[] ONE = {PLAIN, BOX};
    private static final int[] IN = op(ENTER, 0);
    private static final int[] OUT = op(LEAVE, 0);
    private static final int[] AWAIT = op(WAIT, 0, 0);
    private static final int[] PAUSE = op(REST);
    /** One that goes round for ever, at PLACE n. */
    private static int[] stayAt(int n) {
        return op(GO, n);
    }

    public static void main(String[] args) {
        oneThreadAtMost();
        placeIsTheNextOne();
        getIn();
        depthIsOneMore();
        depthHasNoEnd();
        leaveWithoutBeingIn();
        leaveWithoutAnybodyBlocked();
        leaveLetsInTheNext();
        waitWithoutBeingIn();
        waitWithTheFlag();
        waitLeavesTheThing();
        waitWithoutATime();
        waitTillATime();
        waitAtMost();
        tellWithoutBeingIn();
        tellToNobody();
        tellToOne();
        tellAllToAll();
        tellKeepsTheDepth();
        sleepWithTheFlag();
        sleepOfNoTime();
        sleepTillATime();
        sleepAtMost();
        joinOfEachState();
        joinWithTheFlag();
        joinTillItEnds();
        joinItself();
        joinNoThread();
        startOfEachState();
        startNoThread();
        breakOfEachState();
        breakNoThread();
        nextOfTheBlocked();
        nextOfTheWaiting();
        nextBeganToBeSo();
        DUE.close();
    }

    // ---- TO GET IN, ENTER, LEAVE

    private static void oneThreadAtMost() {
        DUE.sentence("In a THING there is one THREAD at most, with a DEPTH.");
        MonitorTurns x = shelf();
        for (int t = 0; t < 6; t++) {
            go(x, t, ONE, row(), IN, stayAt(1));
        }
        x.run(6);
        DUE.states(x, T_READY, T_BLOCKED, T_BLOCKED, T_BLOCKED, T_BLOCKED, T_BLOCKED);
        DUE.in(x, PLAIN, 0, 1);
        // one thread may be in as many as it likes
        x = shelf();
        go(x, 3, row(0, 1, 2, 3, 4, 5), row(), op(ENTER, 0), op(ENTER, 1), op(ENTER, 2), op(ENTER, 3), op(ENTER, 4),
                op(ENTER, 5), PAUSE);
        x.run(6);
        for (int thing = 0; thing < 6; thing++) {
            DUE.in(x, thing, 3, 1);
        }
    }

    private static void placeIsTheNextOne() {
        DUE.sentence("A THREAD that stops at an ACT has it behind it (PLACE is the next one).");
        int[] places = {0, 0, 0, 1, 2, 1, 1, 1};
        for (int state = T_NEW; state <= T_ENDED; state++) {
            DUE.is("told(0, 1) in state " + state, inState(state).told(0, 1), places[state]);
        }
    }

    private static void getIn() {
        DUE.sentence("if nobody is in the THING, the THREAD is, and is READY; else it is BLOCKED");
        for (int thing = PLAIN; thing <= BOXES; thing++) {
            MonitorTurns x = shelf();
            go(x, 0, row(thing), row(), IN, stayAt(1));
            go(x, 1, row(thing), row(), IN, stayAt(1));
            x.turn();
            DUE.states(x, T_READY, T_READY);
            DUE.in(x, thing, 0, 1);
            x.turn();
            DUE.states(x, T_READY, T_BLOCKED);
            DUE.in(x, thing, 0, 1);
            DUE.is("told(1, 5)", x.told(1, 5), thing);
        }
    }

    private static void depthIsOneMore() {
        DUE.sentence("ENTER: DEPTH is 1 more, if it is in; else TO GET IN with 1");
        MonitorTurns x = shelf();
        go(x, 0, ONE, row(), IN, IN, op(ENTER, 1), PAUSE);
        x.turn();
        DUE.in(x, PLAIN, 0, 1);
        x.turn();
        DUE.in(x, PLAIN, 0, 2);
        DUE.in(x, BOX, NONE, 0);
        x.turn();
        DUE.in(x, PLAIN, 0, 2);
        DUE.in(x, BOX, 0, 1);
    }

    private static void depthHasNoEnd() {
        DUE.sentence("DEPTH is 1 more; DEPTH is 1 less (many times)");
        MonitorTurns x = shelf();
        go(x, 0, ONE, row(1), op(GOZ, 3, 0), IN, op(GO, 0), OUT, op(GO, 3));
        for (int i = 0; i < 20; i++) {
            x.run(60);
        }
        DUE.in(x, PLAIN, 0, 400);
        x.set(0, 0, 0);
        x.turn();
        for (int i = 0; i < 13; i++) {
            x.run(60);
        }
        DUE.in(x, PLAIN, 0, 10);
        x.run(18);
        DUE.in(x, PLAIN, 0, 1);
        x.turn();
        DUE.in(x, PLAIN, NONE, 0);
        x.run(2);
        DUE.is("told(0, 2): one LEAVE too many", x.told(0, 2), F_OWNER);
    }

    private static void leaveWithoutBeingIn() {
        DUE.sentence("LEAVE: OWNER, if it is not in");
        MonitorTurns x = did(shelf(), ONE, row(), OUT);
        DUE.is("told(0, 2), nobody is in", x.told(0, 2), F_OWNER);
        x = did(shelf(), ONE, row(), op(ENTER, 1), OUT);
        DUE.is("told(0, 2), it is in another one", x.told(0, 2), F_OWNER);
        x = did(shelf(), ONE, row(), IN, OUT, OUT);
        DUE.is("told(0, 2), it was in", x.told(0, 2), F_OWNER);
        DUE.is("told(0, 1)", x.told(0, 1), 2);
        x = shelf();
        go(x, 1, ONE, row(), IN, stayAt(1));
        x.turn();
        go(x, 0, ONE, row(), OUT);
        DUE.is("turn()", x.turn(), 0);
        DUE.is("told(0, 2), another one is in", x.told(0, 2), F_OWNER);
        DUE.in(x, PLAIN, 1, 1);
    }

    private static void leaveWithoutAnybodyBlocked() {
        DUE.sentence("at 0 THE THING IS LEFT (nobody is BLOCKED by it)");
        MonitorTurns x = did(shelf(), ONE, row(), IN, IN, OUT);
        DUE.in(x, PLAIN, 0, 1);
        x = did(shelf(), ONE, row(), IN, IN, OUT, OUT);
        DUE.in(x, PLAIN, NONE, 0);
        DUE.states(x, T_READY);
    }

    private static void leaveLetsInTheNext() {
        DUE.sentence("the NEXT of those BLOCKED by it is in, READY");
        MonitorTurns x = shelf();
        go(x, 0, ONE, row(), IN, IN, OUT, OUT, stayAt(4));
        go(x, 1, ONE, row(), IN, stayAt(1));
        go(x, 2, ONE, row(), op(ENTER, 1), op(ENTER, 0), stayAt(2));
        go(x, 3, ONE, row(), op(ENTER, 1), stayAt(1));
        x.run(4);
        DUE.states(x, T_READY, T_BLOCKED, T_READY, T_BLOCKED);
        x.run(2);
        DUE.states(x, T_READY, T_BLOCKED, T_BLOCKED, T_BLOCKED);
        x.turn();
        // DEPTH is 1: not left yet
        DUE.in(x, PLAIN, 0, 1);
        DUE.states(x, T_READY, T_BLOCKED, T_BLOCKED, T_BLOCKED);
        x.turn();
        DUE.in(x, PLAIN, 1, 1);
        DUE.in(x, BOX, 2, 1);
        DUE.states(x, T_READY, T_READY, T_BLOCKED, T_BLOCKED);
        DUE.is("told(1, 5)", x.told(1, 5), NONE);
        DUE.is("told(1, 1)", x.told(1, 1), 1);
    }

    // ---- WAIT

    private static void waitWithoutBeingIn() {
        DUE.sentence("WAIT: OWNER");
        MonitorTurns x = did(shelf(), ONE, row(), AWAIT);
        DUE.is("told(0, 2), nobody is in", x.told(0, 2), F_OWNER);
        x = shelf();
        go(x, 1, ONE, row(), IN, stayAt(1));
        x.turn();
        go(x, 0, ONE, row(), AWAIT);
        x.turn();
        DUE.is("told(0, 2), another one is in", x.told(0, 2), F_OWNER);
        DUE.is("of(0, 5)", x.of(PLAIN, 5), 0);
        x = did(shelf(), ONE, row(), op(ENTER, 1), AWAIT);
        DUE.is("told(0, 2), it is in another one", x.told(0, 2), F_OWNER);
    }

    private static void waitWithTheFlag() {
        DUE.sentence("BROKEN, if its FLAG is set (not any more then)");
        MonitorTurns x = shelf();
        go(x, 0, ONE, row(), op(TRY, 4, 512), IN, IN, AWAIT, AWAIT, PAUSE);
        x.run(3);
        x.broken(0);
        x.turn();
        DUE.is("count(9)", x.count(9), 1);
        DUE.is("told(0, 4)", x.told(0, 4), 0);
        DUE.states(x, T_READY);
        DUE.in(x, PLAIN, 0, 2);
        DUE.is("of(0, 5)", x.of(PLAIN, 5), 0);
        x.turn();
        DUE.states(x, T_WAITING);
    }

    private static void waitLeavesTheThing() {
        DUE.sentence("else THE THING IS LEFT, and it is WAITING");
        MonitorTurns x = did(shelf(), ONE, row(), IN, IN, IN, AWAIT);
        DUE.in(x, PLAIN, NONE, 0);
        DUE.states(x, T_WAITING);
        x = shelf();
        go(x, 0, ONE, row(), IN, IN, AWAIT, PAUSE);
        go(x, 1, ONE, row(), IN, stayAt(1));
        go(x, 2, ONE, row(), IN, stayAt(1));
        x.run(3);
        DUE.states(x, T_READY, T_BLOCKED, T_BLOCKED);
        x.run(2);
        DUE.states(x, T_WAITING, T_READY, T_BLOCKED);
        DUE.in(x, PLAIN, 1, 1);
    }

    private static void waitWithoutATime() {
        DUE.sentence("if Rb is above 0 (WAIT: 0 and below)");
        for (int stay : row(0, -1, LEAST)) {
            MonitorTurns x = did(shelf(), ONE, row(stay), IN, AWAIT);
            DUE.states(x, T_WAITING);
            DUE.is("told(0, 6)", x.told(0, 6), NONE);
            DUE.is("turn()", x.turn(), STUCK);
        }
    }

    private static void waitTillATime() {
        DUE.sentence("if Rb is above 0, till TIME is Rb more");
        for (int stay : row(1, 2, 5)) {
            MonitorTurns x = shelf();
            go(x, 0, ONE, row(stay), IN, AWAIT, PAUSE, PAUSE);
            x.run(2);
            DUE.is("told(0, 6)", x.told(0, 6), 2 + stay);
            for (int i = 1; i < stay; i++) {
                DUE.is("turn()", x.turn(), IDLE);
                DUE.states(x, T_WAITING);
            }
            DUE.is("turn()", x.turn(), 0);
            DUE.is("count(0)", x.count(0), 2 + stay);
            DUE.in(x, PLAIN, 0, 1);
            DUE.is("told(0, 6)", x.told(0, 6), NONE);
        }
    }

    private static void waitAtMost() {
        DUE.sentence("(1000000 at most)");
        int[] stays = {999999, 1000000, 1000001, MOST};
        int[] till = {1000001, 1000002, 1000002, 1000002};
        for (int i = 0; i < stays.length; i++) {
            DUE.is("told(0, 6)", did(shelf(), ONE, row(stays[i]), IN, AWAIT).told(0, 6), till[i]);
        }
    }

    // ---- TELL, TELLALL

    private static void tellWithoutBeingIn() {
        DUE.sentence("TELL: OWNER; .. TELLALL");
        for (int tell : row(TELL, TELLALL)) {
            MonitorTurns x = shelf();
            go(x, 1, ONE, row(), IN, AWAIT, PAUSE);
            x.run(2);
            go(x, 0, ONE, row(), op(tell, 0), PAUSE);
            x.turn();
            DUE.is("told(0, 2), nobody is in", x.told(0, 2), F_OWNER);
            DUE.states(x, T_ENDED, T_WAITING);
            go(x, 2, ONE, row(), IN, stayAt(1));
            x.turn();
            go(x, 0, ONE, row(), op(ENTER, 1), op(tell, 0), PAUSE);
            x.run(4);
            DUE.is("told(0, 2), another one is in", x.told(0, 2), F_OWNER);
            DUE.states(x, T_ENDED, T_WAITING);
        }
    }

    private static void tellToNobody() {
        DUE.sentence("the NEXT of those WAITING on it, .. each of them (nobody waits)");
        for (int tell : row(TELL, TELLALL)) {
            MonitorTurns x = shelf();
            go(x, 1, ONE, row(), op(ENTER, 1), op(WAIT, 1, 0), PAUSE);
            x.run(2);
            go(x, 0, ONE, row(), IN, op(tell, 0), PAUSE);
            x.run(2);
            // thread 1 waits on another THING
            DUE.states(x, T_READY, T_WAITING);
            DUE.is("told(0, 1)", x.told(0, 1), 2);
            DUE.in(x, PLAIN, 0, 1);
        }
    }

    /** Threads 0 to 4 wait on thing 0, as often in it as their number and 1; thread 5 tells. */
    private static MonitorTurns allWait(int tell) {
        MonitorTurns x = shelf();
        for (int t = 0; t < 5; t++) {
            int[][] acts = new int[t + 3][];
            for (int i = 0; i <= t; i++) {
                acts[i] = IN;
            }
            acts[t + 1] = AWAIT;
            acts[t + 2] = PAUSE;
            go(x, t, ONE, row(), acts);
            x.run(t + 2);
        }
        go(x, 5, ONE, row(), IN, op(tell, 0), OUT, stayAt(3));
        x.run(2);
        return x;
    }

    private static void tellToOne() {
        DUE.sentence("TELL: .. the NEXT of those WAITING on it .. begins TO GET IN");
        MonitorTurns x = allWait(TELL);
        DUE.states(x, T_BLOCKED, T_WAITING, T_WAITING, T_WAITING, T_WAITING, T_READY);
        DUE.is("of(0, 4)", x.of(PLAIN, 4), 1);
        DUE.is("of(0, 5)", x.of(PLAIN, 5), 4);
        DUE.is("told(0, 5)", x.told(0, 5), PLAIN);
    }

    private static void tellAllToAll() {
        DUE.sentence("TELLALL: each of them, by THREADS, begins TO GET IN");
        int[] first = {0, 4, 0};
        for (int order = 0; order < 3; order++) {
            MonitorTurns x = allWait(TELLALL);
            DUE.states(x, T_BLOCKED, T_BLOCKED, T_BLOCKED, T_BLOCKED, T_BLOCKED, T_READY);
            DUE.is("of(0, 4)", x.of(PLAIN, 4), 5);
            DUE.is("of(0, 5)", x.of(PLAIN, 5), 0);
            x.order(order);
            x.turn();
            DUE.is("of(0, 2) by ORDER " + order, x.of(PLAIN, 2), first[order]);
        }
        // by THREADS, though they came to wait the other way round
        MonitorTurns x = shelf();
        for (int t : row(2, 0, 1)) {
            go(x, t, ONE, row(), IN, AWAIT, PAUSE);
            x.run(2);
        }
        go(x, 5, ONE, row(), IN, op(TELLALL, 0), OUT, PAUSE);
        x.run(3);
        DUE.in(x, PLAIN, 0, 1);
    }

    private static void tellKeepsTheDepth() {
        DUE.sentence("with the DEPTH that it had");
        MonitorTurns x = allWait(TELLALL);
        DUE.is("turn()", x.turn(), 5);
        for (int t = 0; t < 5; t++) {
            DUE.in(x, PLAIN, t, t + 1);
            // it comes to its END, where it leaves the THING
            DUE.is("turn()", x.turn(), t);
        }
        DUE.in(x, PLAIN, NONE, 0);
        // of one whose TIME came, of one that is BROKEN
        x = shelf();
        go(x, 0, ONE, row(1), IN, IN, IN, AWAIT, PAUSE, PAUSE);
        x.run(5);
        DUE.in(x, PLAIN, 0, 3);
        x = did(shelf(), ONE, row(), IN, IN, AWAIT);
        x.broken(0);
        DUE.in(x, PLAIN, 0, 2);
    }

    // ---- SLEEP

    private static void sleepWithTheFlag() {
        DUE.sentence("SLEEP: BROKEN likewise");
        for (int stay : row(5, 1, 0, -1, LEAST, MOST)) {
            MonitorTurns x = did(shelf(), ONE, row(stay, 0), op(BREAK, 1), op(SLEEP, 0));
            DUE.is("told(0, 2)", x.told(0, 2), F_BROKEN);
            DUE.is("told(0, 4)", x.told(0, 4), 0);
            DUE.is("told(0, 1)", x.told(0, 1), 1);
        }
    }

    private static void sleepOfNoTime() {
        DUE.sentence("if Ra is above 0 (SLEEP: 0 and below)");
        for (int stay : row(0, -1, LEAST)) {
            MonitorTurns x = did(shelf(), ONE, row(stay), op(SLEEP, 0));
            DUE.states(x, T_READY);
            DUE.is("told(0, 6)", x.told(0, 6), NONE);
            DUE.is("told(0, 1)", x.told(0, 1), 1);
        }
    }

    private static void sleepTillATime() {
        DUE.sentence("SLEEPING till TIME is Ra more");
        for (int stay : row(1, 2, 5)) {
            MonitorTurns x = shelf();
            go(x, 0, ONE, row(stay), op(SLEEP, 0), PAUSE, PAUSE);
            x.turn();
            DUE.states(x, T_SLEEPING);
            DUE.is("told(0, 6)", x.told(0, 6), 1 + stay);
            for (int i = 1; i < stay; i++) {
                DUE.is("turn()", x.turn(), IDLE);
            }
            DUE.is("turn()", x.turn(), 0);
            DUE.is("count(0)", x.count(0), 1 + stay);
            DUE.states(x, T_READY);
        }
    }

    private static void sleepAtMost() {
        DUE.sentence("(likewise) (SLEEP: 1000000 at most)");
        int[] stays = {999999, 1000000, 1000001, MOST};
        int[] till = {1000000, 1000001, 1000001, 1000001};
        for (int i = 0; i < stays.length; i++) {
            DUE.is("told(0, 6)", did(shelf(), ONE, row(stays[i]), op(SLEEP, 0)).told(0, 6), till[i]);
        }
    }

    // ---- JOIN, START, BREAK

    /** Thread 5 does one act on thread 0, which is in this state, and has a REST behind it. */
    private static MonitorTurns onThreadIn(int state, boolean flag, int op) {
        MonitorTurns x = inState(state);
        x.rule(1);
        program(x, 5, op(op, 0), op(REST));
        x.thread(5, 5, 9);
        x.start(5);
        if (flag) {
            x.broken(5);
        }
        DUE.is("turn()", x.turn(), 5);
        return x;
    }

    private static void joinOfEachState() {
        DUE.sentence("JOIN: THREAD Ra; if that is UNDER WAY: .. JOINING");
        for (int state = T_NONE; state <= T_ENDED; state++) {
            MonitorTurns x = onThreadIn(state, false, JOIN);
            DUE.is("told(5, 0), state " + state, x.told(5, 0), isUnderWay(state) ? T_JOINING : T_READY);
            DUE.is("told(5, 5), state " + state, x.told(5, 5), isUnderWay(state) ? 0 : NONE);
            DUE.is("told(5, 1)", x.told(5, 1), 1);
            DUE.is("told(0, 0)", x.told(0, 0), state);
        }
    }

    private static void joinWithTheFlag() {
        DUE.sentence("if that is UNDER WAY: BROKEN likewise");
        for (int state = T_NONE; state <= T_ENDED; state++) {
            MonitorTurns x = onThreadIn(state, true, JOIN);
            DUE.is("told(5, 2), state " + state, x.told(5, 2), isUnderWay(state) ? F_BROKEN : 0);
            DUE.is("told(5, 4), state " + state, x.told(5, 4), isUnderWay(state) ? 0 : 1);
        }
    }

    private static void joinTillItEnds() {
        DUE.sentence("JOINING till it ENDS");
        for (int[] last : new int[][] {op(REST), op(RAISE, 0)}) {
            MonitorTurns x = shelf();
            go(x, 0, ONE, row(2), op(JOIN, 0), stayAt(1));
            go(x, 1, ONE, row(2), op(JOIN, 0), stayAt(1));
            go(x, 3, ONE, row(0), op(JOIN, 0), stayAt(1));
            go(x, 2, ONE, row(), PAUSE, last);
            x.run(4);
            DUE.states(x, T_JOINING, T_JOINING, T_READY, T_JOINING);
            x.turn();
            // by its END, by a failure; who joins another one goes on joining
            DUE.states(x, T_READY, T_READY, T_ENDED, T_JOINING);
            DUE.is("told(0, 5)", x.told(0, 5), NONE);
        }
    }

    private static void joinItself() {
        DUE.sentence("(itself, too)");
        MonitorTurns x = did(shelf(), ONE, row(0), op(JOIN, 0));
        DUE.states(x, T_JOINING);
        DUE.is("told(0, 5)", x.told(0, 5), 0);
        DUE.is("turn()", x.turn(), STUCK);
        x.broken(0);
        x.turn();
        DUE.is("told(0, 2)", x.told(0, 2), F_BROKEN);
    }

    private static final int[] NO_THREADS = {-1, 6, 7, NONE, LEAST, MOST};

    private static void joinNoThread() {
        DUE.sentence("28 JOIN a (INDEX, BROKEN)");
        for (int t : NO_THREADS) {
            MonitorTurns x = did(shelf(), ONE, row(t), op(JOIN, 0));
            DUE.is("told(0, 2) of JOIN " + t, x.told(0, 2), F_INDEX);
        }
        DUE.is("told(0, 1): the last THREAD", did(shelf(), ONE, row(5), op(JOIN, 0)).told(0, 1), 1);
    }

    private static void startOfEachState() {
        DUE.sentence("START: as start(), STATE: it is not NEW");
        for (int state = T_NONE; state <= T_ENDED; state++) {
            MonitorTurns x = onThreadIn(state, false, START);
            DUE.is("told(5, 2), state " + state, x.told(5, 2), state == T_NEW ? 0 : F_STATE);
            DUE.is("told(0, 0)", x.told(0, 0), state == T_NEW ? T_READY : state);
            DUE.is("count(10)", x.count(10), state == T_NEW ? 0 : 1);
        }
    }

    private static void startNoThread() {
        DUE.sentence("29 START a (INDEX, STATE)");
        for (int t : NO_THREADS) {
            MonitorTurns x = did(shelf(), ONE, row(t), op(START, 0));
            DUE.is("told(0, 2) of START " + t, x.told(0, 2), F_INDEX);
        }
        MonitorTurns x = shelf();
        made(x, 5, PAUSE);
        did(x, ONE, row(5), op(START, 0));
        DUE.is("told(5, 0): the last THREAD", x.told(5, 0), T_READY);
    }

    private static void breakOfEachState() {
        DUE.sentence("BREAK: as broken().");
        for (int state = T_NONE; state <= T_ENDED; state++) {
            MonitorTurns x = onThreadIn(state, false, BREAK);
            MonitorTurns y = inState(state);
            y.broken(0);
            for (int what = 0; what < 9; what++) {
                DUE.is("told(0, " + what + "), state " + state, x.told(0, what), y.told(0, what));
            }
            DUE.is("told(5, 1)", x.told(5, 1), 1);
            DUE.is("told(5, 4)", x.told(5, 4), 0);
            DUE.in(x, PLAIN, y.of(PLAIN, 2), y.of(PLAIN, 3));
        }
        DUE.is("BREAK of itself", did(shelf(), ONE, row(0), op(BREAK, 0)).told(0, 4), 1);
    }

    private static void breakNoThread() {
        DUE.sentence("30 BREAK a (INDEX)");
        for (int t : NO_THREADS) {
            MonitorTurns x = did(shelf(), ONE, row(t), op(BREAK, 0));
            DUE.is("told(0, 2) of BREAK " + t, x.told(0, 2), F_INDEX);
        }
        DUE.is("told(0, 1): the last THREAD", did(shelf(), ONE, row(5), op(BREAK, 0)).told(0, 1), 1);
    }

    // ---- NEXT

    private static final int[][] NEXT = {{3, 1, 4, 2}, {2, 4, 1, 3}, {1, 2, 3, 4}};

    private static void nextOfTheBlocked() {
        DUE.sentence("NEXT by ORDER: 0 who began to be so first, 1 last, 2 the least THREAD. (BLOCKED)");
        for (int order = 0; order < 3; order++) {
            MonitorTurns x = shelf();
            x.rule(1);
            go(x, 0, ONE, row(), IN, OUT, PAUSE);
            x.turn();
            for (int t : row(3, 1, 4, 2)) {
                program(x, t, IN, OUT);
                x.thread(t, t, 9);
                hands(x, t, PLAIN);
                x.start(t);
                DUE.is("turn()", x.turn(), t);
            }
            x.order(order);
            x.turn();
            for (int t : NEXT[order]) {
                DUE.in(x, PLAIN, t, 1);
                DUE.is("turn() by ORDER " + order, x.turn(), t);
            }
            DUE.in(x, PLAIN, NONE, 0);
        }
    }

    private static void nextOfTheWaiting() {
        DUE.sentence("NEXT by ORDER: 0 who began to be so first, 1 last, 2 the least THREAD. (WAITING)");
        for (int order = 0; order < 3; order++) {
            MonitorTurns x = shelf();
            for (int t : row(3, 1, 4, 2)) {
                go(x, t, ONE, row(), IN, AWAIT, PAUSE);
                x.run(2);
            }
            x.order(order);
            go(x, 0, ONE, row(), IN, op(TELL, 0), op(GO, 1));
            x.turn();
            for (int t : NEXT[order]) {
                x.turn();
                DUE.is("told(" + t + ", 0) by ORDER " + order, x.told(t, 0), T_BLOCKED);
                x.turn();
            }
        }
    }

    private static void nextBeganToBeSo() {
        DUE.sentence("who began to be so first (BLOCKED, not WAITING)");
        // thread 2 waits first, thread 1 is BLOCKED ahead of the TELL: by ORDER 0 thread 1 began first to be BLOCKED
        int[] first = {1, 2, 1};
        for (int order = 0; order < 3; order++) {
            MonitorTurns x = shelf();
            x.order(order);
            go(x, 2, ONE, row(), IN, AWAIT, PAUSE);
            x.run(2);
            go(x, 4, ONE, row(), IN, op(TELL, 0), OUT, PAUSE);
            x.turn();
            x.rule(1);
            program(x, 1, IN, PAUSE);
            x.thread(1, 1, 9);
            hands(x, 1, PLAIN);
            x.start(1);
            DUE.is("turn()", x.turn(), 1);
            x.run(2);
            DUE.is("of(0, 2) by ORDER " + order, x.of(PLAIN, 2), first[order]);
        }
        // by ORDER 2 the least of them, though it came later
        MonitorTurns x = shelf();
        x.order(2);
        go(x, 5, ONE, row(), IN, PAUSE, PAUSE, OUT, PAUSE);
        x.turn();
        go(x, 3, ONE, row(), IN, PAUSE);
        x.turn();
        go(x, 2, ONE, row(), IN, PAUSE);
        x.run(4);
        DUE.in(x, PLAIN, 2, 1);
        DUE.is("told(3, 0)", x.told(3, 0), T_BLOCKED);
    }
}
