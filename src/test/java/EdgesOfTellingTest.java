/** Promise 1, THE RING, promises 18 to 23 (told, register, hand, ring, log, count): a test for each edge's sentence. */
public final class EdgesOfTellingTest extends Scenes {
    private static final Due DUE = new Due("EdgesOfTellingTest");
    private static final int[] ONE = {PLAIN, BOX};
    private static final int[] PAUSE = op(REST);

    public static void main(String[] args) {
        nothingIsThere();
        timeRuleOrder();
        toldWhatItIs();
        toldPlace();
        toldPlaceOfOneThatEnded();
        toldFailure();
        toldNumber();
        toldFlag();
        toldTarget();
        toldTill();
        toldNoneAgain();
        toldHandlers();
        toldActs();
        toldIsBad();
        registerOfEach();
        registerOfNone();
        registerIsBad();
        handOfEach();
        handIsBad();
        ringOfOne();
        ringOfSix();
        ringFromTheLeast();
        ringOfTwoRings();
        ringOfThingsAndJoins();
        ringOfThoseThatHangOnIt();
        ringIsNone();
        ringIsBad();
        logFromTheLatestBack();
        logOfSixty();
        logPlaces();
        logFailures();
        logWithoutIdleTurns();
        logIsNone();
        logIsBad();
        countTime();
        countFailures();
        countThings();
        countUnderWay();
        countActs();
        countMet();
        countIsBad();
        DUE.close();
    }

    // ---- promise 1

    private static void nothingIsThere() {
        DUE.sentence("Nothing is there");
        MonitorTurns x = new MonitorTurns();
        int[] none = {T_NONE, 0, 0, 0, 0, NONE, NONE, 0, 0};
        for (int t = 0; t < 6; t++) {
            for (int what = 0; what < 9; what++) {
                DUE.is("told(" + t + ", " + what + ")", x.told(t, what), none[what]);
            }
        }
        for (int p = 0; p < 8; p++) {
            DUE.is("wipe(" + p + ")", x.wipe(p), 0);
        }
        for (int what = 1; what <= 16; what++) {
            DUE.is("count(" + what + ")", x.count(what), 0);
        }
        DUE.is("of(0, 0)", x.of(0, 0), BAD);
        DUE.is("log(0, 0)", x.log(0, 0), NONE);
        DUE.is("ring(0)", x.ring(0), NONE);
        DUE.is("trace(0)", x.trace(0), NONE);
    }

    private static void timeRuleOrder() {
        DUE.sentence("TIME 0, RULE 0, ORDER 0.");
        DUE.is("count(0)", new MonitorTurns().count(0), 0);
        DUE.is("rule(1)", new MonitorTurns().rule(1), 0);
        DUE.is("order(1)", new MonitorTurns().order(1), 0);
    }

    // ---- promise 18: told

    private static void toldWhatItIs() {
        DUE.sentence("0 what it is (0 NONE, 1 NEW, 2 READY, 3 BLOCKED, 4 WAITING, 5 SLEEPING, 6 JOINING, 7 ENDED)");
        for (int state = T_NONE; state <= T_ENDED; state++) {
            DUE.is("told(0, 0)", inState(state).told(0, 0), state);
        }
    }

    private static void toldPlace() {
        DUE.sentence("1 PLACE");
        MonitorTurns x = shelf();
        int[][] acts = new int[40][];
        for (int i = 0; i < 40; i++) {
            acts[i] = PAUSE;
        }
        made(x, 0, acts);
        DUE.is("told(0, 1) of one that is NEW", x.told(0, 1), 0);
        x.start(0);
        for (int i = 0; i < 40; i++) {
            DUE.is("told(0, 1)", x.told(0, 1), i);
            x.turn();
        }
        DUE.is("told(0, 1): the END", x.told(0, 1), 40);
    }

    private static void toldPlaceOfOneThatEnded() {
        DUE.sentence("a PLACE (the ACT that comes; the END behind the last one) (of one that ENDED)");
        MonitorTurns x = inState(T_ENDED);
        DUE.is("told(0, 1) at its END", x.told(0, 1), 1);
        x.wipe(0);
        DUE.is("told(0, 1), its PROGRAM has no ACTS now", x.told(0, 1), 1);
        x = did(shelf(), ONE, row(), PAUSE, op(RAISE, 0));
        DUE.is("told(0, 1) of one that a failure ended", x.told(0, 1), 1);
        x.act(0, REST, 0, 0, 0);
        DUE.is("told(0, 1), its PROGRAM has more ACTS now", x.told(0, 1), 1);
    }

    private static void toldFailure() {
        DUE.sentence("2 the KIND of the failure by which it ENDED (0 else)");
        for (int state = T_NONE; state <= T_ENDED; state++) {
            DUE.is("told(0, 2) in state " + state, inState(state).told(0, 2), 0);
        }
        DUE.is("told(0, 2)", did(shelf(), ONE, row(), op(RAISE, 0)).told(0, 2), F_OWN);
        // one that was met is none by which it ENDED
        DUE.is("told(0, 2)", did(shelf(), ONE, row(), op(TRY, 2, 4095), op(RAISE, 0)).told(0, 2), 0);
        MonitorTurns x = did(shelf(), ONE, row(), op(TRY, 40, 4095), op(RAISE, 0));
        DUE.is("told(0, 0)", x.told(0, 0), T_ENDED);
        DUE.is("told(0, 2)", x.told(0, 2), 0);
    }

    private static void toldNumber() {
        DUE.sentence("3 that one's NUMBER");
        DUE.is("told(0, 3)", did(shelf(), ONE, row(LEAST), op(RAISE, 0)).told(0, 3), LEAST);
        DUE.is("told(0, 3)", did(shelf(), ONE, row(0), op(BY, 0, 0)).told(0, 3), 0);
        MonitorTurns x = did(shelf(), ONE, row(7), op(TRY, 40, 4095), op(RAISE, 0));
        DUE.is("told(0, 3) of one that was met", x.told(0, 3), 0);
        for (int state = T_NONE; state <= T_ENDED; state++) {
            DUE.is("told(0, 3) in state " + state, inState(state).told(0, 3), 0);
        }
    }

    private static void toldFlag() {
        DUE.sentence("4 whether its FLAG is set (1, 0)");
        for (int state = T_NONE; state <= T_ENDED; state++) {
            MonitorTurns x = inState(state);
            DUE.is("told(0, 4) in state " + state, x.told(0, 4), 0);
            x.broken(0);
            boolean set = state == T_READY || state == T_BLOCKED;
            DUE.is("told(0, 4) behind broken() in state " + state, x.told(0, 4), set ? 1 : 0);
        }
    }

    private static void toldTarget() {
        DUE.sentence("5 the THING by which it is BLOCKED, on which it WAITS, the THREAD that it joins (NONE)");
        int[] want = {NONE, NONE, NONE, 0, 0, NONE, 0, NONE};
        for (int state = T_NONE; state <= T_ENDED; state++) {
            DUE.is("told(0, 5) in state " + state, inState(state).told(0, 5), want[state]);
        }
        MonitorTurns x = new MonitorTurns();
        for (int i = 0; i < 32; i++) {
            x.thing(PLAIN, 0);
        }
        go(x, 1, row(31), row(), op(ENTER, 0), op(WAIT, 0, 0), PAUSE);
        x.run(2);
        DUE.is("told(1, 5): the last THING", x.told(1, 5), 31);
        go(x, 5, row(), row(), op(GO, 0));
        go(x, 0, row(), row(5), op(JOIN, 0), PAUSE);
        x.run(2);
        DUE.is("told(0, 5): the last THREAD", x.told(0, 5), 5);
    }

    private static void toldTill() {
        DUE.sentence("6 till which TIME it SLEEPS, WAITS (NONE)");
        int[] want = {NONE, NONE, NONE, NONE, NONE, 51, NONE, NONE};
        for (int state = T_NONE; state <= T_ENDED; state++) {
            DUE.is("told(0, 6) in state " + state, inState(state).told(0, 6), want[state]);
        }
        MonitorTurns x = did(shelf(), ONE, row(9), op(ENTER, 0), op(WAIT, 0, 0));
        DUE.is("told(0, 6)", x.told(0, 6), 11);
        x.run(9);
        DUE.is("told(0, 6), its TIME came", x.told(0, 6), NONE);
    }

    /** THREAD 0 is READY, and hangs on nobody. */
    private static void isReadyAgain(String how, MonitorTurns x) {
        DUE.is("told(0, 0) " + how, x.told(0, 0), T_READY);
        DUE.is("told(0, 5) " + how, x.told(0, 5), NONE);
        DUE.is("told(0, 6) " + how, x.told(0, 6), NONE);
    }

    private static void toldNoneAgain() {
        DUE.sentence("5 .. (NONE), 6 .. (NONE) (behind each way by which a THREAD is READY)");
        MonitorTurns x = inState(T_NEW);
        x.start(0);
        isReadyAgain("behind start()", x);
        x = inState(T_NEW);
        go(x, 1, row(), row(0), op(START, 0), op(GO, 1));
        x.turn();
        isReadyAgain("behind START", x);
        x = shelf();
        go(x, 0, ONE, row(), op(ENTER, 0), PAUSE);
        x.turn();
        isReadyAgain("behind ENTER", x);
        x = shelf();
        go(x, 0, ONE, row(2), op(SLEEP, 0), PAUSE, PAUSE);
        x.run(3);
        isReadyAgain("behind SLEEP", x);
        x = shelf();
        go(x, 0, ONE, row(2), op(ENTER, 0), op(WAIT, 0, 0), PAUSE, PAUSE);
        x.run(4);
        isReadyAgain("behind WAIT for a TIME", x);
        x = shelf();
        go(x, 0, ONE, row(1), op(JOIN, 0), PAUSE);
        go(x, 1, ONE, row(), PAUSE);
        x.run(2);
        isReadyAgain("behind JOIN", x);
        for (int state : row(T_WAITING, T_SLEEPING, T_JOINING)) {
            x = inState(state);
            x.broken(0);
            isReadyAgain("BROKEN in state " + state, x);
        }
        toldNoneBehindTell();
    }

    private static void toldNoneBehindTell() {
        MonitorTurns x = shelf();
        go(x, 0, ONE, row(50), op(ENTER, 0), op(WAIT, 0, 0), PAUSE);
        x.run(2);
        go(x, 1, ONE, row(), op(ENTER, 0), op(TELL, 0), op(LEAVE, 0), op(GO, 3));
        x.run(2);
        DUE.is("told(0, 0) behind TELL", x.told(0, 0), T_BLOCKED);
        DUE.is("told(0, 5) behind TELL", x.told(0, 5), PLAIN);
        DUE.is("told(0, 6) behind TELL", x.told(0, 6), NONE);
        x.turn();
        isReadyAgain("let in", x);
    }

    private static void toldHandlers() {
        DUE.sentence("7 HANDLERS");
        int[][] acts = {op(TRY, 0, 0), op(TRY, 0, 0), op(DONE), op(TRY, 0, 0), op(TRY, 0, 0), op(TRY, 0, 0),
            op(TRY, 0, 0), op(TRY, 0, 0), op(TRY, 0, 0), op(TRY, 0, 0), op(DONE)};
        int[] handlers = {1, 2, 1, 2, 3, 4, 5, 6, 7, 8, 7};
        MonitorTurns x = shelf();
        go(x, 0, ONE, row(), acts);
        DUE.is("told(0, 7)", x.told(0, 7), 0);
        for (int want : handlers) {
            x.turn();
            DUE.is("told(0, 7)", x.told(0, 7), want);
        }
    }

    private static void toldActs() {
        DUE.sentence("8 ACTS that it began (failing ones, too)");
        MonitorTurns x = did(shelf(), ONE, row(), PAUSE, op(BY, 0, 0));
        DUE.is("told(0, 8)", x.told(0, 8), 2);
        x = did(shelf(), ONE, row(), op(TRY, 2, 4095), op(LEAVE, 0), op(TRY, 4, 4095), op(COUNT, 0, 0), PAUSE);
        DUE.is("told(0, 8)", x.told(0, 8), 5);
        DUE.is("count(12)", x.count(12), 2);
        int[] begun = {0, 0, 0, 1, 2, 1, 1, 1};
        for (int state = T_NONE; state <= T_ENDED; state++) {
            DUE.is("told(0, 8) in state " + state, inState(state).told(0, 8), begun[state]);
        }
        // neither a TURN at the END nor one that FAILS as BROKEN begins an ACT
        x = shelf();
        go(x, 0, ONE, row(1), op(SLEEP, 0));
        x.run(60);
        DUE.is("told(0, 8)", x.told(0, 8), 1);
        x = inState(T_SLEEPING);
        x.broken(0);
        x.turn();
        DUE.is("told(0, 8)", x.told(0, 8), 1);
    }

    private static void toldIsBad() {
        DUE.sentence("8 ACTS that it began (..). BAD.");
        MonitorTurns x = inState(T_READY);
        for (int t : row(-1, 6, LEAST, MOST)) {
            for (int what = 0; what < 9; what++) {
                DUE.is("told(" + t + ", " + what + ")", x.told(t, what), BAD);
            }
        }
        for (int what : row(-1, 9, LEAST, MOST)) {
            DUE.is("told(0, " + what + ")", x.told(0, what), BAD);
            DUE.is("told(5, " + what + "), of one that is NONE", x.told(5, what), BAD);
        }
    }

    // ---- promises 19, 20: register, hand

    private static void registerOfEach() {
        DUE.sentence("A REGISTER of a THREAD");
        MonitorTurns x = shelf();
        for (int t = 0; t < 6; t++) {
            x.thread(t, 0, 0);
            registers(x, t, 10 * t, 10 * t + 1, 10 * t + 2, 10 * t + 3, LEAST + t, MOST - t);
        }
        for (int t = 0; t < 6; t++) {
            int[] want = {10 * t, 10 * t + 1, 10 * t + 2, 10 * t + 3, LEAST + t, MOST - t};
            for (int r = 0; r < 6; r++) {
                DUE.is("register(" + t + ", " + r + ")", x.register(t, r), want[r]);
            }
        }
    }

    private static void registerOfNone() {
        DUE.sentence("(of one that is NONE 0)");
        MonitorTurns x = new MonitorTurns();
        for (int t = 0; t < 6; t++) {
            for (int r = 0; r < 6; r++) {
                DUE.is("register(" + t + ", " + r + ")", x.register(t, r), 0);
            }
        }
    }

    private static void registerIsBad() {
        DUE.sentence("(of one that is NONE 0). BAD. (register)");
        MonitorTurns x = inState(T_NEW);
        for (int bad : row(-1, 6, LEAST, MOST)) {
            DUE.is("register(" + bad + ", 0)", x.register(bad, 0), BAD);
            DUE.is("register(0, " + bad + ")", x.register(0, bad), BAD);
            DUE.is("register(5, " + bad + "), of one that is NONE", x.register(5, bad), BAD);
        }
    }

    private static void handOfEach() {
        DUE.sentence("The THING in a HAND of a THREAD; NONE.");
        MonitorTurns x = shelf();
        for (int t = 0; t < 6; t++) {
            for (int h = 0; h < 6; h++) {
                DUE.is("hand() of one that is NONE", x.hand(t, h), NONE);
            }
            x.thread(t, 0, 0);
            hands(x, t, t, NONE, t + 1, t + 2, NONE, t + 3);
        }
        for (int t = 0; t < 6; t++) {
            int[] want = {t, NONE, t + 1, t + 2, NONE, t + 3};
            for (int h = 0; h < 6; h++) {
                DUE.is("hand(" + t + ", " + h + ")", x.hand(t, h), want[h]);
            }
        }
    }

    private static void handIsBad() {
        DUE.sentence("The THING in a HAND of a THREAD; NONE. BAD.");
        MonitorTurns x = inState(T_NEW);
        for (int bad : row(-1, 6, LEAST, MOST)) {
            DUE.is("hand(" + bad + ", 0)", x.hand(bad, 0), BAD);
            DUE.is("hand(0, " + bad + ")", x.hand(0, bad), BAD);
            DUE.is("hand(5, " + bad + "), of one that is NONE", x.hand(5, bad), BAD);
        }
    }

    // ---- THE RING, and promise 21: ring

    private static void ringIs(MonitorTurns x, int... want) {
        for (int k = 0; k < want.length; k++) {
            DUE.is("ring(" + k + ")", x.ring(k), want[k]);
        }
        DUE.is("ring() behind its last one", x.ring(want.length), NONE);
        DUE.is("ring(MOST)", x.ring(MOST), NONE);
    }

    private static void joins(MonitorTurns x, int t, int other) {
        go(x, t, ONE, row(other), op(JOIN, 0), PAUSE);
    }

    private static void ringOfOne() {
        DUE.sentence("from the least THREAD on that comes back to itself so (by itself)");
        for (int t : row(0, 5)) {
            MonitorTurns x = shelf();
            joins(x, t, t);
            ringIs(x);
            x.turn();
            ringIs(x, t);
            x.broken(t);
            ringIs(x);
        }
    }

    private static void ringOfSix() {
        DUE.sentence("the next one on which it hangs, ..");
        MonitorTurns x = shelf();
        int[] next = {4, 3, 0, 5, 1, 2};
        for (int t = 0; t < 6; t++) {
            joins(x, t, next[t]);
        }
        x.run(5);
        ringIs(x);
        x.turn();
        ringIs(x, 0, 4, 1, 3, 5, 2);
    }

    private static void ringFromTheLeast() {
        DUE.sentence("THE RING: from the least THREAD on");
        MonitorTurns x = shelf();
        joins(x, 5, 2);
        joins(x, 2, 4);
        joins(x, 4, 5);
        x.run(3);
        ringIs(x, 2, 4, 5);
    }

    private static void ringOfTwoRings() {
        DUE.sentence("from the least THREAD on that comes back to itself (two rings)");
        MonitorTurns x = shelf();
        joins(x, 1, 5);
        joins(x, 5, 1);
        joins(x, 2, 3);
        joins(x, 3, 2);
        x.run(4);
        ringIs(x, 1, 5);
        x.broken(1);
        ringIs(x, 2, 3);
    }

    private static void ringOfThingsAndJoins() {
        DUE.sentence("A BLOCKED THREAD hangs on the one that is in the THING, a JOINING one on that which it joins.");
        MonitorTurns x = shelf();
        go(x, 3, ONE, row(), op(ENTER, 0), op(ENTER, 1), PAUSE);
        go(x, 1, ONE, row(3), op(ENTER, 1), op(JOIN, 0), PAUSE);
        x.run(3);
        ringIs(x);
        x.turn();
        ringIs(x, 1, 3);
        DUE.is("told(1, 0)", x.told(1, 0), T_JOINING);
        DUE.is("told(3, 0)", x.told(3, 0), T_BLOCKED);
        // one that WAITS hangs on nobody
        x = shelf();
        go(x, 0, ONE, row(), op(ENTER, 0), op(WAIT, 0, 0), PAUSE);
        joins(x, 1, 0);
        x.run(3);
        ringIs(x);
        DUE.is("turn()", x.turn(), STUCK);
    }

    private static void ringOfThoseThatHangOnIt() {
        DUE.sentence("that comes back to itself (one that hangs on a ring does not)");
        MonitorTurns x = shelf();
        joins(x, 0, 4);
        joins(x, 1, 0);
        joins(x, 4, 3);
        joins(x, 3, 4);
        x.run(4);
        ringIs(x, 3, 4);
        x = shelf();
        joins(x, 0, 1);
        joins(x, 1, 1);
        x.run(2);
        ringIs(x, 1);
    }

    private static void ringIsNone() {
        DUE.sentence("The k-th THREAD of THE RING; NONE.");
        ringIs(new MonitorTurns());
        for (int state : row(T_NONE, T_NEW, T_READY, T_BLOCKED, T_WAITING, T_SLEEPING, T_ENDED)) {
            ringIs(inState(state));
        }
        MonitorTurns x = inState(T_JOINING);
        for (int k : row(1, 2, 6, MOST)) {
            DUE.is("ring(" + k + ")", x.ring(k), NONE);
        }
    }

    private static void ringIsBad() {
        DUE.sentence("BAD: k is below 0.");
        for (MonitorTurns x : new MonitorTurns[] {new MonitorTurns(), inState(T_JOINING)}) {
            DUE.is("ring(-1)", x.ring(-1), BAD);
            DUE.is("ring(LEAST)", x.ring(LEAST), BAD);
            DUE.is("ring(NONE)", x.ring(NONE), BAD);
        }
    }

    // ---- promise 22: log

    private static void logIs(MonitorTurns x, int k, int thread, int place, int failure) {
        DUE.is("log(" + k + ", 0)", x.log(k, 0), thread);
        DUE.is("log(" + k + ", 1)", x.log(k, 1), place);
        DUE.is("log(" + k + ", 2)", x.log(k, 2), failure);
    }

    private static void logFromTheLatestBack() {
        DUE.sentence("from the latest one (k = 0) back: 0 the THREAD");
        MonitorTurns x = shelf();
        for (int t = 0; t < 6; t++) {
            go(x, t, ONE, row(), op(GO, 0));
        }
        x.run(6);
        for (int k = 0; k < 6; k++) {
            logIs(x, k, 5 - k, 0, 0);
        }
        x.turn();
        logIs(x, 0, 0, 0, 0);
        logIs(x, 6, 0, 0, 0);
    }

    /** Thread 1 goes round through 40 ACTS, so that each of 40 TURNS on end has its own PLACE. */
    private static MonitorTurns round(int turns) {
        MonitorTurns x = shelf();
        int[][] acts = new int[40][];
        for (int i = 0; i < 39; i++) {
            acts[i] = PAUSE;
        }
        acts[39] = op(GO, 0);
        go(x, 1, ONE, row(), acts);
        for (int i = 0; i < turns; i++) {
            x.turn();
        }
        return x;
    }

    private static void logOfSixty() {
        DUE.sentence("Of the latest 60 TURNS that a THREAD had");
        MonitorTurns x = round(59);
        logIs(x, 58, 1, 0, 0);
        logIs(x, 59, NONE, NONE, NONE);
        for (int turns : row(60, 61, 119, 120, 121)) {
            x = round(turns);
            logIs(x, 0, 1, (turns - 1) % 40, 0);
            logIs(x, 1, 1, (turns - 2) % 40, 0);
            logIs(x, 58, 1, (turns - 59) % 40, 0);
            logIs(x, 59, 1, (turns - 60) % 40, 0);
            logIs(x, 60, NONE, NONE, NONE);
        }
    }

    private static void logPlaces() {
        DUE.sentence("1 the PLACE at which it was");
        MonitorTurns x = shelf();
        go(x, 0, ONE, row(1), op(GO, 3), PAUSE, PAUSE, op(SLEEP, 0));
        x.run(60);
        logIs(x, 0, 0, 4, 0);
        logIs(x, 1, 0, 3, 0);
        logIs(x, 2, 0, 0, 0);
        DUE.is("log(3, 1)", x.log(3, 1), NONE);
        x = new MonitorTurns();
        go(x, 2, row(), row());
        x.turn();
        logIs(x, 0, 2, 0, 0);
    }

    private static void logFailures() {
        DUE.sentence("2 the failure that came (0)");
        MonitorTurns x = did(shelf(), ONE, row(5), op(TRY, 2, 128), op(RAISE, 0), op(BY, 0, 1));
        logIs(x, 0, 0, 2, F_ZERO);
        logIs(x, 1, 0, 1, F_OWN);
        logIs(x, 2, 0, 0, 0);
        x = inState(T_WAITING);
        x.broken(0);
        x.turn();
        logIs(x, 0, 0, 2, F_BROKEN);
    }

    private static void logWithoutIdleTurns() {
        DUE.sentence("TURNS that a THREAD had (IDLE ones, those that were none)");
        MonitorTurns x = inState(T_SLEEPING);
        x.run(5);
        logIs(x, 0, 0, 0, 0);
        logIs(x, 1, NONE, NONE, NONE);
        x = inState(T_JOINING);
        DUE.is("turn()", x.turn(), STUCK);
        logIs(x, 0, 0, 0, 0);
        logIs(x, 1, NONE, NONE, NONE);
        x = inState(T_ENDED);
        DUE.is("turn()", x.turn(), OVER);
        logIs(x, 0, 0, 0, 0);
        logIs(x, 1, NONE, NONE, NONE);
    }

    private static void logIsNone() {
        DUE.sentence("NONE: none such.");
        for (int k : row(0, 1, 59, 60, MOST)) {
            logIs(new MonitorTurns(), k, NONE, NONE, NONE);
        }
        MonitorTurns x = round(80);
        for (int k : row(60, 61, 79, 80, 120, MOST)) {
            logIs(x, k, NONE, NONE, NONE);
        }
    }

    private static void logIsBad() {
        DUE.sentence("BAD: k below 0, what.");
        for (MonitorTurns x : new MonitorTurns[] {new MonitorTurns(), round(3)}) {
            for (int k : row(-1, -60, LEAST)) {
                logIs(x, k, BAD, BAD, BAD);
            }
            for (int what : row(-1, 3, LEAST, MOST)) {
                for (int k : row(0, 2, 59, 60, MOST, -1)) {
                    DUE.is("log(" + k + ", " + what + ")", x.log(k, what), BAD);
                }
            }
        }
    }

    // ---- promise 23: count

    private static void countTime() {
        DUE.sentence("0 TIME");
        MonitorTurns x = inState(T_SLEEPING);
        DUE.is("count(0)", x.count(0), 1);
        x.run(60);
        DUE.is("count(0)", x.count(0), 52);
        x.run(60);
        DUE.is("count(0)", x.count(0), 52);
    }

    private static void countFailures() {
        DUE.sentence("1 to 11 failures of that KIND ever, 12 all of them");
        MonitorTurns x = did(shelf(), ONE, row(0, -1, 13), op(TRY, 0, 0), op(DONE), op(BY, 0, 0));
        go(x, 1, ONE, row(5), op(TRY, 2, 4095), op(RAISE, 0), op(TRY, 4, 4095), op(RAISE, 0), op(BY, 1, 1));
        x.run(60);
        int[] want = {0, 0, 0, 0, 0, 0, 2, 2, 0, 0, 0, 0};
        for (int kind = 1; kind <= 11; kind++) {
            DUE.is("count(" + kind + ")", x.count(kind), want[kind]);
        }
        DUE.is("count(12)", x.count(12), 4);
        // a THREAD made anew leaves them, what a call refuses is none
        x.thread(0, 0, 0);
        x.thread(1, 1, 0);
        x.thing(9, 9);
        x.start(5);
        DUE.is("count(6)", x.count(6), 2);
        DUE.is("count(12)", x.count(12), 4);
    }

    private static void countThings() {
        DUE.sentence("13 THINGS");
        MonitorTurns x = new MonitorTurns();
        DUE.is("count(13)", x.count(13), 0);
        for (int i = 1; i <= 40; i++) {
            x.thing(PLAIN, 0);
            DUE.is("count(13)", x.count(13), Math.min(i, 32));
        }
        DUE.is("count(13)", did(shelf(), ONE, row(), op(NEW, 0, BOX, 0)).count(13), SHELF + 1);
    }

    private static void countUnderWay() {
        DUE.sentence("14 THREADS UNDER WAY");
        for (int state = T_NONE; state <= T_ENDED; state++) {
            int others = state == T_BLOCKED ? 1 : 0;
            DUE.is("count(14) in state " + state, inState(state).count(14), (isUnderWay(state) ? 1 : 0) + others);
        }
        MonitorTurns x = shelf();
        for (int t = 0; t < 6; t++) {
            go(x, t, ONE, row(), PAUSE);
            DUE.is("count(14)", x.count(14), t + 1);
        }
        for (int t = 0; t < 6; t++) {
            x.turn();
            DUE.is("count(14)", x.count(14), 5 - t);
        }
    }

    private static void countActs() {
        DUE.sentence("15 ACTS begun ever");
        MonitorTurns x = did(shelf(), ONE, row(), PAUSE, op(BY, 0, 0));
        DUE.is("count(15): failing ones, too", x.count(15), 2);
        x.thread(0, 0, 0);
        DUE.is("count(15): of a THREAD made anew, too", x.count(15), 2);
        go(x, 1, ONE, row(2), op(SLEEP, 0));
        x.run(60);
        DUE.is("count(15): neither IDLE TURNS nor the END", x.count(15), 3);
        DUE.is("count(0)", x.count(0), 5);
    }

    private static void countMet() {
        DUE.sentence("16 failures that HANDLERS met");
        MonitorTurns x = did(shelf(), ONE, row(), op(TRY, 2, 4095), op(BY, 0, 0), op(TRY, 0, 0), op(BY, 0, 0));
        DUE.is("count(16)", x.count(16), 1);
        DUE.is("count(12)", x.count(12), 2);
    }

    private static void countIsBad() {
        DUE.sentence("16 failures that HANDLERS met. BAD.");
        MonitorTurns x = new MonitorTurns();
        for (int what : row(-1, 17, 18, LEAST, MOST)) {
            DUE.is("count(" + what + ")", x.count(what), BAD);
        }
    }
}
