/** ENDS, BROKEN, A TURN, STUCK, OVER (part 3 of the terms), promises 14 to 17: a test for each edge's sentence. */
public final class EdgesOfTurnsTest extends Scenes {
    private static final Due DUE = new Due("EdgesOfTurnsTest");
    private static final int[] ONE = {PLAIN, BOX};
    private static final int[] IN = op(ENTER, 0);
    private static final int[] OUT = op(LEAVE, 0);
    private static final int[] AWAIT = op(WAIT, 0, 0);
    private static final int[] NAP = op(SLEEP, 0);
    private static final int[] PAUSE = op(REST);
    private static final int[] ROUND = op(GO, 0);

    public static void main(String[] args) {
        endLeavesAllThings();
        endWakesThoseJoining();
        endInTheTurnThatBringsItThere();
        endWhereItStopped();
        endWithoutActs();
        brokenSleepingOrJoining();
        brokenWaiting();
        brokenFailsInItsNextTurn();
        brokenAtItsEnd();
        brokenTwice();
        brokenReadyOrBlocked();
        brokenOthers();
        timeIsOneMore();
        timeHasCome();
        timeHasComeByThreads();
        rule0FromThread0();
        rule0GoesRound();
        rule0BehindIdleTurns();
        rule1GreatestRank();
        rule1LeastOfThese();
        idleTurns();
        stuck();
        notStuck();
        over();
        ruleOfTwo();
        orderOfThree();
        turnTells();
        turnIsFull();
        turnLooksAtFullFirst();
        runUpToN();
        runEndsOver();
        runEndsStuck();
        runIsBad();
        runIsFull();
        runLooksOnce();
        runAnswersTheFirst();
        fiveHundredAndTwelveCalls();
        DUE.close();
    }

    private static void turns(MonitorTurns x, int... want) {
        for (int i = 0; i < want.length; i++) {
            DUE.is("turn() number " + i, x.turn(), want[i]);
        }
    }

    // ---- ENDS

    private static void endLeavesAllThings() {
        DUE.sentence("it leaves all THINGS in which it is, by numbers, whatever the DEPTH");
        for (int[] last : new int[][] {op(REST), op(RAISE, 0)}) {
            MonitorTurns x = shelf();
            go(x, 0, ONE, row(), IN, IN, IN, op(ENTER, 1), last);
            go(x, 1, ONE, row(), PAUSE, IN, op(GO, 2));
            go(x, 2, ONE, row(), PAUSE, PAUSE, PAUSE, op(ENTER, 1), op(GO, 4));
            x.run(10);
            DUE.states(x, T_READY, T_BLOCKED, T_BLOCKED);
            DUE.in(x, PLAIN, 0, 3);
            DUE.in(x, BOX, 0, 1);
            x.turn();
            DUE.states(x, T_ENDED, T_READY, T_READY);
            DUE.in(x, PLAIN, 1, 1);
            DUE.in(x, BOX, 2, 1);
        }
        // 32 THINGS, the last one too
        MonitorTurns x = new MonitorTurns();
        for (int i = 0; i < 32; i++) {
            x.thing(PLAIN, 0);
        }
        go(x, 0, row(31, 0), row(), IN, op(ENTER, 1), PAUSE);
        x.run(2);
        DUE.in(x, 31, 0, 1);
        x.turn();
        DUE.in(x, 31, NONE, 0);
        DUE.in(x, 0, NONE, 0);
    }

    private static void endWakesThoseJoining() {
        DUE.sentence("then those JOINING it are READY, by numbers");
        MonitorTurns x = shelf();
        go(x, 2, ONE, row(), PAUSE, PAUSE);
        for (int t : row(0, 1, 3, 4, 5)) {
            go(x, t, ONE, row(2), op(JOIN, 0), PAUSE);
        }
        x.run(6);
        DUE.states(x, T_JOINING, T_JOINING, T_READY, T_JOINING, T_JOINING, T_JOINING);
        x.turn();
        DUE.states(x, T_READY, T_READY, T_ENDED, T_READY, T_READY, T_READY);
    }

    private static void endInTheTurnThatBringsItThere() {
        DUE.sentence("At the END it ENDS in the TURN that brings it there and leaves it READY");
        int[][] last = {PAUSE, IN, op(GO, 1), op(GO, 40), op(GOZ, 1, 0), NAP, op(JOIN, 1), op(BREAK, 0), op(SET, 0, 5)};
        for (int[] act : last) {
            MonitorTurns x = shelf();
            go(x, 0, ONE, row(0, 5), act);
            DUE.is("turn()", x.turn(), 0);
            DUE.states(x, T_ENDED);
            DUE.is("told(0, 1)", x.told(0, 1), 1);
            DUE.is("told(0, 2)", x.told(0, 2), 0);
            DUE.in(x, PLAIN, NONE, 0);
            DUE.is("turn()", x.turn(), OVER);
        }
    }

    private static void endWhereItStopped() {
        DUE.sentence("else (it stopped there ..) in its next TURN");
        MonitorTurns x = shelf();
        go(x, 0, ONE, row(2), NAP);
        x.turn();
        DUE.states(x, T_SLEEPING);
        turns(x, IDLE, 0, OVER);
        DUE.states(x, T_ENDED);
        DUE.is("told(0, 8)", x.told(0, 8), 1);
        // BLOCKED there, let in
        x = shelf();
        go(x, 0, ONE, row(), IN, PAUSE, OUT, op(GO, 3));
        go(x, 1, ONE, row(), IN);
        x.run(4);
        DUE.states(x, T_READY, T_READY);
        DUE.in(x, PLAIN, 1, 1);
        turns(x, 1);
        DUE.states(x, T_READY, T_ENDED);
        DUE.in(x, PLAIN, NONE, 0);
        // WAITING there, its TIME comes
        x = shelf();
        go(x, 0, ONE, row(1), IN, AWAIT);
        turns(x, 0, 0);
        DUE.states(x, T_WAITING);
        turns(x, 0, OVER);
        // JOINING there
        x = shelf();
        go(x, 0, ONE, row(1), op(JOIN, 0));
        go(x, 1, ONE, row(1), PAUSE);
        turns(x, 0, 1);
        DUE.states(x, T_READY, T_ENDED);
        turns(x, 0, OVER);
    }

    private static void endWithoutActs() {
        DUE.sentence("(.. or has no ACT) in its next TURN");
        MonitorTurns x = new MonitorTurns();
        go(x, 3, row(), row());
        DUE.is("told(3, 0)", x.told(3, 0), T_READY);
        DUE.is("count(14)", x.count(14), 1);
        turns(x, 3, OVER);
        DUE.is("told(3, 0)", x.told(3, 0), T_ENDED);
        DUE.is("told(3, 2)", x.told(3, 2), 0);
        DUE.is("told(3, 8)", x.told(3, 8), 0);
        DUE.is("count(15)", x.count(15), 0);
        DUE.is("count(0)", x.count(0), 1);
    }

    // ---- BROKEN

    private static void brokenSleepingOrJoining() {
        DUE.sentence("a THREAD that is SLEEPING or JOINING is READY .. its FLAG is not set");
        for (int state : row(T_SLEEPING, T_JOINING)) {
            MonitorTurns x = inState(state);
            x.broken(0);
            DUE.states(x, T_READY);
            DUE.is("told(0, 4)", x.told(0, 4), 0);
            DUE.is("told(0, 5)", x.told(0, 5), NONE);
            DUE.is("told(0, 6)", x.told(0, 6), NONE);
            DUE.is("told(0, 1)", x.told(0, 1), 1);
        }
    }

    private static void brokenWaiting() {
        DUE.sentence("one that is WAITING begins TO GET IN");
        MonitorTurns x = inState(T_WAITING);
        x.broken(0);
        DUE.states(x, T_READY);
        DUE.in(x, PLAIN, 0, 1);
        DUE.is("told(0, 4)", x.told(0, 4), 0);
        x = inState(T_WAITING);
        go(x, 1, ONE, row(), IN, op(GO, 1));
        x.turn();
        x.broken(0);
        DUE.states(x, T_BLOCKED, T_READY);
        DUE.in(x, PLAIN, 1, 1);
        DUE.is("told(0, 4)", x.told(0, 4), 0);
        DUE.is("of(0, 4)", x.of(PLAIN, 4), 1);
        DUE.is("of(0, 5)", x.of(PLAIN, 5), 0);
        // one that waits for a TIME waits for it no more
        x = shelf();
        go(x, 0, ONE, row(9), IN, AWAIT, PAUSE);
        go(x, 1, ONE, row(), PAUSE, IN, op(GO, 2));
        x.run(4);
        x.broken(0);
        DUE.states(x, T_BLOCKED, T_READY);
        DUE.is("told(0, 6)", x.told(0, 6), NONE);
        x.run(20);
        DUE.states(x, T_BLOCKED, T_READY);
    }

    private static void brokenFailsInItsNextTurn() {
        DUE.sentence("either FAILS by BROKEN in its next TURN (which does no ACT)");
        int[] acts = {0, 0, 0, 0, 2, 1, 1};
        for (int state : row(T_WAITING, T_SLEEPING, T_JOINING)) {
            MonitorTurns x = inState(state);
            int begun = x.count(15);
            x.broken(0);
            DUE.is("count(9)", x.count(9), 0);
            turns(x, 0);
            DUE.states(x, T_ENDED);
            DUE.is("told(0, 2)", x.told(0, 2), F_BROKEN);
            DUE.is("told(0, 1)", x.told(0, 1), acts[state]);
            DUE.is("told(0, 8)", x.told(0, 8), acts[state]);
            DUE.is("count(15)", x.count(15), begun);
            DUE.is("count(9)", x.count(9), 1);
            DUE.is("log(0, 1)", x.log(0, 1), acts[state]);
            DUE.is("log(0, 2)", x.log(0, 2), F_BROKEN);
        }
        // a HANDLER meets it; what comes behind that is as ever
        MonitorTurns x = shelf();
        go(x, 0, ONE, row(9), op(TRY, 1, 512), NAP, PAUSE);
        x.run(2);
        x.broken(0);
        turns(x, 0);
        DUE.is("told(0, 1)", x.told(0, 1), 1);
        turns(x, 0);
        DUE.states(x, T_SLEEPING);
        DUE.is("told(0, 6)", x.told(0, 6), 13);
    }

    private static void brokenAtItsEnd() {
        DUE.sentence("the CHOSEN THREAD FAILS as BROKEN, ENDS, or does its ACT");
        MonitorTurns x = shelf();
        go(x, 0, ONE, row(9), NAP);
        x.turn();
        x.broken(0);
        turns(x, 0);
        DUE.is("told(0, 2): it is at its END, and FAILS", x.told(0, 2), F_BROKEN);
        x = shelf();
        go(x, 0, ONE, row(9), op(TRY, 40, 512), NAP);
        x.run(2);
        x.broken(0);
        turns(x, 0);
        DUE.is("told(0, 2): met, then ENDED", x.told(0, 2), 0);
        DUE.states(x, T_ENDED);
        // with the FLAG alone it ENDS
        x = shelf();
        go(x, 0, ONE, row(1), NAP);
        go(x, 1, ONE, row(), ROUND);
        turns(x, 0, 1);
        DUE.states(x, T_READY);
        x.broken(0);
        turns(x, 0);
        DUE.is("told(0, 2)", x.told(0, 2), 0);
        DUE.is("told(0, 4)", x.told(0, 4), 1);
    }

    private static void brokenTwice() {
        DUE.sentence("One that is READY or BLOCKED: its FLAG is set (BROKEN ahead of that TURN once more)");
        for (int state : row(T_WAITING, T_SLEEPING, T_JOINING)) {
            MonitorTurns x = inState(state);
            x.broken(0);
            DUE.is("broken(0)", x.broken(0), 1);
            DUE.is("told(0, 4)", x.told(0, 4), 1);
            turns(x, 0);
            DUE.is("told(0, 2)", x.told(0, 2), F_BROKEN);
            DUE.is("count(9): once", x.count(9), 1);
            DUE.is("told(0, 4)", x.told(0, 4), 1);
        }
    }

    private static void brokenReadyOrBlocked() {
        DUE.sentence("One that is READY or BLOCKED: its FLAG is set.");
        for (int state : row(T_READY, T_BLOCKED)) {
            MonitorTurns x = inState(state);
            DUE.is("told(0, 4)", x.told(0, 4), 0);
            x.broken(0);
            DUE.is("told(0, 4)", x.told(0, 4), 1);
            DUE.states(x, state);
            x.broken(0);
            DUE.is("told(0, 4), broken twice", x.told(0, 4), 1);
            x.run(3);
            DUE.is("count(9): a REST is not BROKEN", x.count(9), 0);
            DUE.is("told(0, 4)", x.told(0, 4), 1);
        }
    }

    private static void brokenOthers() {
        DUE.sentence("Others: nothing.");
        for (int state : row(T_NONE, T_NEW, T_ENDED)) {
            MonitorTurns x = inState(state);
            x.broken(0);
            DUE.states(x, state);
            DUE.is("told(0, 4)", x.told(0, 4), 0);
        }
        MonitorTurns x = inState(T_NEW);
        x.broken(0);
        x.start(0);
        x.turn();
        DUE.is("told(0, 1)", x.told(0, 1), 1);
        DUE.is("count(12)", x.count(12), 0);
    }

    // ---- A TURN

    private static void timeIsOneMore() {
        DUE.sentence("A TURN: TIME is 1 more");
        MonitorTurns x = shelf();
        go(x, 0, ONE, row(3), NAP, op(BY, 1, 1));
        int[] had = {0, IDLE, IDLE, 0};
        for (int i = 0; i < had.length; i++) {
            DUE.is("count(0)", x.count(0), i);
            turns(x, had[i]);
        }
        DUE.is("count(0): a failure takes its TURN, too", x.count(0), 4);
    }

    private static void timeHasCome() {
        DUE.sentence("those SLEEPING or WAITING whose TIME has come are READY, begin TO GET IN");
        MonitorTurns x = shelf();
        go(x, 0, ONE, row(3), NAP, PAUSE, PAUSE);
        go(x, 1, ONE, row(3), IN, AWAIT, PAUSE, PAUSE);
        go(x, 2, ONE, row(), ROUND);
        turns(x, 0, 1, 2);
        DUE.states(x, T_SLEEPING, T_READY, T_READY);
        DUE.is("told(0, 6)", x.told(0, 6), 4);
        // at TIME 4, not ahead of it, and behind it not once more
        turns(x, 0);
        DUE.states(x, T_READY, T_READY, T_READY);
        turns(x, 1);
        DUE.is("told(1, 6)", x.told(1, 6), 8);
        turns(x, 2, 0);
        DUE.states(x, T_ENDED, T_WAITING, T_READY);
        turns(x, 1);
        DUE.is("count(0)", x.count(0), 8);
        DUE.in(x, PLAIN, 1, 1);
    }

    private static void timeHasComeByThreads() {
        DUE.sentence("by THREADS, those .. WAITING whose TIME has come .. begin TO GET IN");
        // threads 2 and 1 wait till TIME 6; the least one is in, though it came later
        MonitorTurns x = shelf();
        go(x, 2, ONE, row(4), IN, AWAIT, PAUSE, PAUSE);
        turns(x, 2, 2);
        go(x, 1, ONE, row(2), IN, AWAIT, PAUSE, PAUSE);
        turns(x, 1, 1, IDLE);
        DUE.is("told(1, 6)", x.told(1, 6), 6);
        DUE.is("told(2, 6)", x.told(2, 6), 6);
        turns(x, 1);
        DUE.states(x, T_NONE, T_READY, T_BLOCKED);
        DUE.in(x, PLAIN, 1, 1);
        turns(x, 1, 2);
        DUE.in(x, PLAIN, 2, 1);
    }

    private static void started(MonitorTurns x, int t, int rank) {
        program(x, t, ROUND);
        x.thread(t, t, rank);
        x.start(t);
    }

    private static void rule0FromThread0() {
        DUE.sentence("(from THREAD 0 on at first)");
        for (int first = 0; first < 6; first++) {
            MonitorTurns x = new MonitorTurns();
            for (int t = first; t < 6; t++) {
                started(x, t, t);
            }
            turns(x, first);
        }
    }

    private static void rule0GoesRound() {
        DUE.sentence("the first READY one behind that of the latest TURN that had one, going round");
        MonitorTurns x = new MonitorTurns();
        for (int t = 0; t < 6; t++) {
            started(x, t, 9 - t);
        }
        turns(x, 0, 1, 2, 3, 4, 5, 0, 1);
        x = new MonitorTurns();
        started(x, 4, 0);
        turns(x, 4, 4);
        started(x, 3, 9);
        turns(x, 3, 4, 3);
        started(x, 5, 0);
        turns(x, 4, 5, 3);
        // behind one that is no more READY
        x = new MonitorTurns();
        started(x, 1, 0);
        go(x, 4, row(), row(), PAUSE);
        turns(x, 1, 4);
        started(x, 5, 0);
        started(x, 0, 0);
        turns(x, 5, 0, 1, 5);
    }

    private static void rule0BehindIdleTurns() {
        DUE.sentence("the latest TURN that had one (IDLE ones have none)");
        MonitorTurns x = shelf();
        go(x, 3, ONE, row(3), NAP, op(GO, 1));
        turns(x, 3, IDLE, IDLE);
        started(x, 2, 0);
        started(x, 5, 0);
        turns(x, 5, 2, 3);
    }

    private static void rule1GreatestRank() {
        DUE.sentence("by RULE 1: the READY one of the greatest RANK");
        int[][] ranks = {{0, 1, 2, 3, 4, 9}, {9, 8, 7, 6, 5, 4}, {0, 0, 9, 0, 0, 8}};
        int[] greatest = {5, 0, 2};
        for (int i = 0; i < ranks.length; i++) {
            MonitorTurns x = new MonitorTurns();
            x.rule(1);
            for (int t = 0; t < 6; t++) {
                started(x, t, ranks[i][t]);
            }
            turns(x, greatest[i], greatest[i]);
        }
        // the READY one: a greater RANK that sleeps has no TURN
        MonitorTurns x = shelf();
        x.rule(1);
        program(x, 3, NAP, op(GO, 1));
        x.thread(3, 3, 9);
        x.set(3, 0, 3);
        x.start(3);
        started(x, 0, 0);
        turns(x, 3, 0, 0, 3, 3);
    }

    private static void rule1LeastOfThese() {
        DUE.sentence("of these the least");
        for (int least = 0; least < 5; least++) {
            MonitorTurns x = new MonitorTurns();
            x.rule(1);
            for (int t = 5; t >= 0; t--) {
                started(x, t, t >= least ? 7 : 6);
            }
            turns(x, least, least, least);
        }
    }

    private static void idleTurns() {
        DUE.sentence("Without a READY one the TURN is IDLE.");
        MonitorTurns x = shelf();
        go(x, 0, ONE, row(3), NAP, PAUSE);
        turns(x, 0, IDLE, IDLE);
        DUE.is("count(0)", x.count(0), 3);
        DUE.is("log(0, 0): it is none that a THREAD had", x.log(0, 0), 0);
        DUE.is("log(1, 0)", x.log(1, 0), NONE);
    }

    // ---- STUCK, OVER

    private static void stuck() {
        DUE.sentence("STUCK: no THREAD is READY, none SLEEPS or WAITS for a TIME, and some are UNDER WAY.");
        turns(inState(T_WAITING), STUCK, STUCK);
        turns(inState(T_JOINING), STUCK, STUCK);
        MonitorTurns x = shelf();
        go(x, 0, ONE, row(), IN, op(ENTER, 1), PAUSE);
        go(x, 1, ONE, row(), op(ENTER, 1), IN, PAUSE);
        turns(x, 0, 1, 0, 1, STUCK);
        DUE.states(x, T_BLOCKED, T_BLOCKED);
        DUE.is("count(0): TIME stays", x.count(0), 4);
        // others that are NEW or ENDED do not matter
        made(x, 2, PAUSE);
        turns(x, STUCK);
    }

    private static void notStuck() {
        DUE.sentence("no THREAD is READY, none SLEEPS or WAITS for a TIME (one does)");
        turns(inState(T_READY), 0);
        turns(inState(T_SLEEPING), IDLE);
        turns(inState(T_BLOCKED), 1);
        MonitorTurns x = shelf();
        go(x, 0, ONE, row(0), op(JOIN, 0), PAUSE);
        go(x, 1, ONE, row(9), NAP, PAUSE);
        turns(x, 0, 1, IDLE);
        x = shelf();
        go(x, 0, ONE, row(0), op(JOIN, 0), PAUSE);
        go(x, 1, ONE, row(9), IN, AWAIT, PAUSE);
        turns(x, 0, 1, 1, IDLE);
    }

    private static void over() {
        DUE.sentence("OVER: none is UNDER WAY.");
        turns(new MonitorTurns(), OVER);
        turns(inState(T_NONE), OVER);
        turns(inState(T_NEW), OVER);
        MonitorTurns x = inState(T_ENDED);
        turns(x, OVER, OVER);
        DUE.is("count(0): TIME stays", x.count(0), 1);
    }

    // ---- promises 14, 15: rule, order

    private static void ruleOfTwo() {
        DUE.sentence("RULE becomes r (0, 1): what it was. BAD.");
        MonitorTurns x = new MonitorTurns();
        for (int bad : row(-1, 2, LEAST, MOST)) {
            DUE.is("rule(" + bad + ")", x.rule(bad), BAD);
        }
        DUE.is("rule(1)", x.rule(1), 0);
        for (int bad : row(-1, 2, LEAST, MOST)) {
            DUE.is("rule(" + bad + ")", x.rule(bad), BAD);
        }
        DUE.is("rule(1)", x.rule(1), 1);
        DUE.is("rule(0)", x.rule(0), 1);
        DUE.is("rule(0)", x.rule(0), 0);
    }

    private static void orderOfThree() {
        DUE.sentence("ORDER becomes o (0 .. 2): what it was. BAD.");
        MonitorTurns x = new MonitorTurns();
        int was = 0;
        for (int o : row(0, 1, 2, 2, 0, 2, 1)) {
            for (int bad : row(-1, 3, LEAST, MOST)) {
                DUE.is("order(" + bad + ")", x.order(bad), BAD);
            }
            DUE.is("order(" + o + ")", x.order(o), was);
            was = o;
        }
    }

    // ---- promises 16, 17: turn, run

    private static void turnTells() {
        DUE.sentence("A TURN: the THREAD that had it; IDLE. OVER, STUCK: there is none (TIME stays).");
        MonitorTurns x = shelf();
        go(x, 5, ONE, row(2, 5), NAP, op(JOIN, 1), PAUSE);
        turns(x, 5, IDLE, 5, STUCK, STUCK);
        DUE.is("count(0)", x.count(0), 3);
        x.broken(5);
        turns(x, 5, OVER, OVER);
        DUE.is("count(0)", x.count(0), 4);
    }

    /** Thread 0 goes round, and FAILS in every second TURN; so many failures came. */
    private static MonitorTurns withFailures(int failures) {
        MonitorTurns x = new MonitorTurns();
        go(x, 0, row(), row(), op(TRY, 0, 128), op(RAISE, 0));
        for (int i = 0; i < failures / 30; i++) {
            x.run(60);
        }
        if (failures % 30 > 0) {
            x.run(failures % 30 * 2);
        }
        DUE.is("count(12)", x.count(12), failures);
        return x;
    }

    private static void turnIsFull() {
        DUE.sentence("FULL: 3000 failures came");
        MonitorTurns x = withFailures(2999);
        turns(x, 0, 0, FULL, FULL);
        DUE.is("count(12)", x.count(12), 3000);
        DUE.is("count(0)", x.count(0), 6000);
    }

    private static void turnLooksAtFullFirst() {
        DUE.sentence("(looked at first)");
        MonitorTurns x = endedWithFailures();
        go(x, 1, row(), row(), op(RAISE, 0));
        turns(x, 1);
        DUE.is("count(14): it is OVER, too", x.count(14), 0);
        turns(x, FULL);
        DUE.is("run(5)", x.run(5), FULL);
        x = endedWithFailures();
        go(x, 1, row(), row(1), op(TRY, 2, 128), op(RAISE, 0), op(JOIN, 0));
        DUE.is("run(60): it is STUCK, too", x.run(60), 3);
        DUE.is("told(1, 0)", x.told(1, 0), T_JOINING);
        turns(x, FULL);
        DUE.is("run(5)", x.run(5), FULL);
    }

    /** 2999 failures came, and nobody is UNDER WAY. */
    private static MonitorTurns endedWithFailures() {
        MonitorTurns x = new MonitorTurns();
        go(x, 0, row(), row(0, 1), op(TRY, 0, 128), op(GOZ, 3, 1), op(RAISE, 0));
        for (int i = 0; i < 149; i++) {
            x.run(60);
        }
        x.run(57);
        x.set(0, 1, 0);
        DUE.is("run(60)", x.run(60), 2);
        DUE.is("count(12)", x.count(12), 2999);
        turns(x, OVER);
        return x;
    }

    private static void runUpToN() {
        DUE.sentence("Up to n TURNS (1 .. 60) .. how many.");
        MonitorTurns x = new MonitorTurns();
        started(x, 0, 0);
        int time = 0;
        for (int n : row(1, 2, 59, 60)) {
            DUE.is("run(" + n + ")", x.run(n), n);
            time += n;
            DUE.is("count(0)", x.count(0), time);
        }
        // IDLE ones, too
        x = shelf();
        go(x, 0, ONE, row(100), NAP, PAUSE);
        DUE.is("run(60)", x.run(60), 60);
        DUE.is("count(0)", x.count(0), 60);
        DUE.is("run(60)", x.run(60), 41);
    }

    private static void runEndsOver() {
        DUE.sentence("as long as it is neither OVER (run)");
        MonitorTurns x = new MonitorTurns();
        DUE.is("run(60) of nothing", x.run(60), 0);
        DUE.is("run(1) of nothing", x.run(1), 0);
        go(x, 0, row(), row(), PAUSE, PAUSE, PAUSE);
        DUE.is("run(2)", x.run(2), 2);
        DUE.is("run(60)", x.run(60), 1);
        DUE.is("run(60)", x.run(60), 0);
        DUE.is("count(0)", x.count(0), 3);
    }

    private static void runEndsStuck() {
        DUE.sentence("nor STUCK (run)");
        MonitorTurns x = inState(T_JOINING);
        DUE.is("run(60)", x.run(60), 0);
        DUE.is("count(0)", x.count(0), 1);
        go(x, 1, ONE, row(), PAUSE, PAUSE);
        DUE.is("run(60)", x.run(60), 2);
        DUE.is("run(1)", x.run(1), 0);
    }

    private static void runIsBad() {
        DUE.sentence("BAD; (run: n is not 1 .. 60)");
        MonitorTurns x = inState(T_READY);
        for (int n : row(0, -1, 61, LEAST, MOST)) {
            DUE.is("run(" + n + ")", x.run(n), BAD);
        }
        DUE.is("count(0)", x.count(0), 0);
    }

    private static void runIsFull() {
        DUE.sentence("FULL likewise (run)");
        MonitorTurns x = withFailures(3000);
        for (int n : row(1, 60)) {
            DUE.is("run(" + n + ")", x.run(n), FULL);
        }
        DUE.is("count(0)", x.count(0), 6000);
    }

    private static void runLooksOnce() {
        DUE.sentence("(looked at once, ahead of all)");
        MonitorTurns x = withFailures(2999);
        DUE.is("run(60)", x.run(60), 60);
        DUE.is("count(12)", x.count(12), 3029);
        DUE.is("run(60)", x.run(60), FULL);
        DUE.is("turn()", x.turn(), FULL);
    }

    private static void runAnswersTheFirst() {
        DUE.sentence("Calls answer, the first of these that fits (run: BAD, FULL)");
        MonitorTurns x = withFailures(3000);
        for (int n : row(0, 61, LEAST, MOST)) {
            DUE.is("run(" + n + ")", x.run(n), BAD);
        }
    }

    private static void fiveHundredAndTwelveCalls() {
        DUE.sentence("An object is used for at most 512 calls after it has been made");
        MonitorTurns x = new MonitorTurns();
        x.act(0, ADD, 0, 1, 0);
        x.act(0, GO, 0, 0, 0);
        x.thread(0, 0, 0);
        x.set(0, 1, 1);
        x.start(0);
        for (int call = 6; call <= 509; call++) {
            x.run(60);
        }
        DUE.is("count(0), call 510", x.count(0), 504 * 60);
        DUE.is("register(0, 0), call 511", x.register(0, 0), 504 * 30);
        DUE.is("run(60), call 512", x.run(60), 60);
    }
}
