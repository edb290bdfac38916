/** Promises 7 to 13 (act, wipe, thread, set, give, start, broken): a test for each sentence that names an edge. */
public final class EdgesOfProgramsTest extends Scenes {
    private static final Due DUE = new Due("EdgesOfProgramsTest");
    /** What a, b, c of each op name: r a REGISTER, h a HAND, p a PLACE, k a KIND, m m, - nothing. */
    private static final String[] NAMES = {
        "r--", "rr-", "rr-", "rr-", "rr-", "rrr", "p--", "pr-", "hr-", "hkr", "rhh", "hh-", "rh-", "hr-", "rh-",
        "rh-", "rh-", "rhr", "hrr", "hhr", "hrh", "hhr", "h--", "h--", "hr-", "h--", "h--", "r--", "r--", "r--",
        "r--", "r--", "r--", "pm-", "---", "rr-", "---"};

    public static void main(String[] args) {
        actsOfProgramsThatAreNone();
        actsOfNoOp();
        actsThatName("a, b, c where they name a REGISTER", 'r', 5);
        actsThatName("a HAND (0 .. 5)", 'h', 5);
        actsThatName("a PLACE (0 .. 40)", 'p', 40);
        actsThatName("a KIND", 'k', 7);
        actsThatName("m (0 .. 4095)", 'm', 4095);
        numbersThatAreNotNamed();
        actsAreCounted();
        actOfOneUnderWay();
        actOfOneNotUnderWay();
        actOfSeveralThreads();
        actsAreForty();
        actAnswersTheFirst();
        wipeEmptyAndFull();
        wipeIsBad();
        wipeOfOneUnderWay();
        wipeAnswersTheFirst();
        threadIsBad();
        threadUnderWay();
        threadAnswersTheFirst();
        threadIsAnew();
        threadTakesNoActYet();
        setEachRegister();
        setIsBad();
        setOfOneThatIsNone();
        setInEachState();
        giveEachHand();
        giveNothing();
        giveIsBad();
        giveOfOneThatIsNone();
        giveInEachState();
        startOfNew();
        startIsBad();
        startOfWhatIsNotNew();
        brokenUnderWay();
        brokenElse();
        brokenIsBad();
        DUE.close();
    }

    // ---- promise 7: act

    private static void actsOfProgramsThatAreNone() {
        DUE.sentence("PROGRAMS 0 .. 7 (act: BAD: p)");
        MonitorTurns x = new MonitorTurns();
        for (int p : row(-1, 8, LEAST, MOST)) {
            DUE.is("act(" + p + ", REST, ..)", x.act(p, REST, 0, 0, 0), BAD);
        }
        for (int p = 0; p < 8; p++) {
            DUE.is("act(" + p + ", REST, ..)", x.act(p, REST, 0, 0, 0), 1);
        }
    }

    private static void actsOfNoOp() {
        DUE.sentence("BAD: p; op");
        MonitorTurns x = new MonitorTurns();
        for (int op : row(-1, 37, LEAST, MOST)) {
            DUE.is("act(0, " + op + ", ..)", x.act(0, op, 0, 0, 0), BAD);
        }
        DUE.is("wipe(0): nothing came", x.wipe(0), 0);
        for (int op = 0; op <= 36; op++) {
            DUE.is("act(0, " + op + ", ..)", x.act(0, op, 0, 0, 0), op + 1);
        }
    }

    private static int actWith(int op, int column, int v) {
        int[] abc = {0, 0, 0};
        abc[column] = v;
        return new MonitorTurns().act(7, op, abc[0], abc[1], abc[2]);
    }

    private static void actsThatName(String sentence, char name, int most) {
        DUE.sentence(sentence);
        for (int op = 0; op < NAMES.length; op++) {
            for (int column = 0; column < 3; column++) {
                if (NAMES[op].charAt(column) != name) {
                    continue;
                }
                String where = "op " + op + ", number " + column + ", ";
                for (int bad : row(-1, most + 1, LEAST, MOST)) {
                    DUE.is(where + bad, actWith(op, column, bad), BAD);
                }
                for (int good : row(0, 1, most)) {
                    DUE.is(where + good, actWith(op, column, good), 1);
                }
            }
        }
    }

    private static void numbersThatAreNotNamed() {
        DUE.sentence("of a, b, c what is not named is not looked at");
        for (int op = 0; op < NAMES.length; op++) {
            for (int column = 0; column < 3; column++) {
                for (int v : row(-1, 6, 41, 4096, LEAST, MOST)) {
                    if (NAMES[op].charAt(column) == '-') {
                        DUE.is("op " + op + ", number " + column + ", " + v, actWith(op, column, v), 1);
                    }
                }
            }
        }
        MonitorTurns x = did(shelf(), row(BOX), row(4, 3), op(ADD, 0, 1, LEAST), op(ENTER, 0, -1, MOST),
                op(REST, 77, -77, 9), op(SLEEP, 5, -9, -9));
        DUE.is("told(0, 1)", x.told(0, 1), 4);
        DUE.is("register(0, 0)", x.register(0, 0), 7);
    }

    private static void actsAreCounted() {
        DUE.sentence("An ACT behind those of a PROGRAM: how many it has.");
        MonitorTurns x = new MonitorTurns();
        DUE.is("act() of an empty one", x.act(2, SET, 0, 5, 0), 1);
        DUE.is("act() behind it", x.act(2, SET, 1, 6, 0), 2);
        DUE.is("act() of another one", x.act(3, REST, 0, 0, 0), 1);
        DUE.is("act() behind these", x.act(2, ADD, 0, 1, 0), 3);
        x.thread(0, 2, 0);
        x.start(0);
        DUE.is("run(60)", x.run(60), 3);
        DUE.is("they were done in their order", x.register(0, 0), 11);
    }

    private static void actOfOneUnderWay() {
        DUE.sentence("STATE: a THREAD that has it is UNDER WAY (act)");
        for (int state = T_READY; state <= T_JOINING; state++) {
            MonitorTurns x = inState(state);
            DUE.is("told(0, 0)", x.told(0, 0), state);
            DUE.is("act() in state " + state, x.act(0, REST, 0, 0, 0), STATE);
            DUE.is("act() of another program", x.act(7, REST, 0, 0, 0), 1);
        }
    }

    private static void actOfOneNotUnderWay() {
        DUE.sentence("UNDER WAY from READY to JOINING (act: not NEW, not ENDED)");
        DUE.is("act() of one that is NEW", inState(T_NEW).act(0, REST, 0, 0, 0), 4);
        DUE.is("act() of one that ENDED", inState(T_ENDED).act(0, REST, 0, 0, 0), 2);
        // an act that comes while the thread is NEW is done
        MonitorTurns x = inState(T_NEW);
        x.act(0, SET, 3, 9, 0);
        x.start(0);
        DUE.is("run(60)", x.run(60), 4);
        DUE.is("register(0, 3)", x.register(0, 3), 9);
    }

    private static void actOfSeveralThreads() {
        DUE.sentence("a THREAD that has it (one of several)");
        MonitorTurns x = new MonitorTurns();
        x.act(4, REST, 0, 0, 0);
        for (int t = 0; t < 6; t++) {
            x.thread(t, 4, 0);
        }
        DUE.is("all are NEW", x.act(4, REST, 0, 0, 0), 2);
        x.start(5);
        DUE.is("act(), the last one is READY", x.act(4, REST, 0, 0, 0), STATE);
        DUE.is("wipe(), the last one is READY", x.wipe(4), STATE);
        x.run(60);
        DUE.is("act(), it ENDED", x.act(4, REST, 0, 0, 0), 3);
        x.start(0);
        x.run(60);
        DUE.is("told(0, 1): the END", x.told(0, 1), 3);
        // a thread that has another program now
        x.thread(0, 3, 0);
        x.start(0);
        DUE.is("act() of the one that it had", x.act(4, REST, 0, 0, 0), 4);
        DUE.is("act() of the one that it has", x.act(3, REST, 0, 0, 0), STATE);
    }

    private static MonitorTurns forty() {
        MonitorTurns x = new MonitorTurns();
        for (int i = 0; i < 40; i++) {
            x.act(0, REST, 0, 0, 0);
        }
        return x;
    }

    private static void actsAreForty() {
        DUE.sentence("rows of up to 40 ACTS (FULL: 40.)");
        MonitorTurns x = new MonitorTurns();
        for (int i = 1; i <= 40; i++) {
            DUE.is("act() number " + i, x.act(0, i < 40 ? REST : RAISE, 0, 0, 0), i);
        }
        DUE.is("act() number 41", x.act(0, REST, 0, 0, 0), FULL);
        DUE.is("act() number 41, again", x.act(0, REST, 0, 0, 0), FULL);
        x.thread(0, 0, 0);
        x.start(0);
        DUE.is("run(60)", x.run(60), 40);
        DUE.is("told(0, 1): the 40th", x.told(0, 1), 39);
        DUE.is("told(0, 2)", x.told(0, 2), F_OWN);
        DUE.is("wipe(0)", x.wipe(0), 40);
        DUE.is("act() behind it", x.act(0, REST, 0, 0, 0), 1);
    }

    private static void actAnswersTheFirst() {
        DUE.sentence("Calls answer, the first of these that fits (act: BAD, STATE, FULL)");
        MonitorTurns x = forty();
        DUE.is("BAD ahead of FULL: a", x.act(0, ADD, 6, 0, 0), BAD);
        DUE.is("BAD ahead of FULL: op", x.act(0, 37, 0, 0, 0), BAD);
        x.thread(0, 0, 0);
        x.start(0);
        DUE.is("STATE ahead of FULL", x.act(0, REST, 0, 0, 0), STATE);
        DUE.is("BAD ahead of STATE: a", x.act(0, ADD, 0, -1, 0), BAD);
        DUE.is("BAD ahead of STATE: op", x.act(0, -1, 0, 0, 0), BAD);
    }

    // ---- promise 8: wipe

    private static void wipeEmptyAndFull() {
        DUE.sentence("A PROGRAM has no ACTS: how many it had.");
        MonitorTurns x = forty();
        x.act(1, REST, 0, 0, 0);
        DUE.is("wipe() of 40", x.wipe(0), 40);
        DUE.is("wipe() of none", x.wipe(0), 0);
        DUE.is("wipe() of one", x.wipe(1), 1);
        DUE.is("wipe() of one never written", x.wipe(7), 0);
        x = inState(T_NEW);
        DUE.is("wipe() of one that a NEW thread has", x.wipe(0), 3);
        x.start(0);
        DUE.is("turn(): it has no ACT", x.turn(), 0);
        DUE.is("told(0, 0)", x.told(0, 0), T_ENDED);
        DUE.is("told(0, 8)", x.told(0, 8), 0);
    }

    private static void wipeIsBad() {
        DUE.sentence("BAD; (wipe)");
        MonitorTurns x = new MonitorTurns();
        for (int p : row(-1, 8, LEAST, MOST)) {
            DUE.is("wipe(" + p + ")", x.wipe(p), BAD);
        }
    }

    private static void wipeOfOneUnderWay() {
        DUE.sentence("STATE likewise. (wipe)");
        for (int state = T_NEW; state <= T_ENDED; state++) {
            MonitorTurns x = inState(state);
            int[] had = {0, 3, STATE, STATE, STATE, STATE, STATE, 1};
            DUE.is("wipe() in state " + state, x.wipe(0), had[state]);
            DUE.is("wipe() of another program", x.wipe(7), 0);
        }
    }

    private static void wipeAnswersTheFirst() {
        DUE.sentence("Calls answer, the first of these that fits (wipe)");
        MonitorTurns x = inState(T_READY);
        DUE.is("wipe(-1)", x.wipe(-1), BAD);
        DUE.is("wipe(0)", x.wipe(0), STATE);
        x.run(60);
        DUE.is("wipe(0): the ACTS are there still", x.wipe(0), 3);
    }

    // ---- promise 9: thread

    private static void threadIsBad() {
        DUE.sentence("BAD: t, p, rank not 0 .. 9");
        MonitorTurns x = new MonitorTurns();
        for (int t : row(-1, 6, LEAST, MOST)) {
            DUE.is("thread(" + t + ", 0, 0)", x.thread(t, 0, 0), BAD);
        }
        for (int p : row(-1, 8, LEAST, MOST)) {
            DUE.is("thread(0, " + p + ", 0)", x.thread(0, p, 0), BAD);
        }
        for (int rank : row(-1, 10, LEAST, MOST)) {
            DUE.is("thread(0, 0, " + rank + ")", x.thread(0, 0, rank), BAD);
        }
        DUE.is("told(0, 0)", x.told(0, 0), T_NONE);
        for (int t = 0; t < 6; t++) {
            DUE.is("thread(" + t + ", .., 0)", x.thread(t, t, 0), 1);
            DUE.is("thread(" + t + ", .., 9)", x.thread(t, 7 - t, 9), 1);
            DUE.is("told(" + t + ", 0)", x.told(t, 0), T_NEW);
        }
    }

    private static void threadUnderWay() {
        DUE.sentence("STATE: it is UNDER WAY. (thread)");
        for (int state = T_NONE; state <= T_ENDED; state++) {
            MonitorTurns x = inState(state);
            DUE.is("thread() in state " + state, x.thread(0, 0, 0), isUnderWay(state) ? STATE : 1);
            DUE.is("told(0, 0)", x.told(0, 0), isUnderWay(state) ? state : T_NEW);
            DUE.is("thread() of another one", x.thread(5, 0, 0), 1);
        }
    }

    private static void threadAnswersTheFirst() {
        DUE.sentence("Calls answer, the first of these that fits (thread: BAD, STATE)");
        for (int state = T_READY; state <= T_JOINING; state++) {
            MonitorTurns x = inState(state);
            DUE.is("thread(0, 8, 0)", x.thread(0, 8, 0), BAD);
            DUE.is("thread(0, 0, 10)", x.thread(0, 0, 10), BAD);
            DUE.is("thread(0, 0, 0)", x.thread(0, 0, 0), STATE);
        }
    }

    /** Thread 0 meets a failure, then ENDS by one, with HANDLERS, the FLAG, REGISTERS and HANDS. */
    private static MonitorTurns afterALife() {
        MonitorTurns x = shelf();
        go(x, 0, row(0, 1, 2, 3, 4, 5), row(41, 1, 2, 3, 4, 0), op(TRY, 2, 128), op(RAISE, 0), op(TRY, 0, 0),
                op(TRY, 0, 0), op(BREAK, 5), op(RAISE, 0), op(REST));
        x.run(60);
        return x;
    }

    private static void toldIs(MonitorTurns x, int... want) {
        for (int what = 0; what < want.length; what++) {
            DUE.is("told(0, " + what + ")", x.told(0, what), want[what]);
        }
    }

    private static void threadIsAnew() {
        DUE.sentence("REGISTERS 0, HANDS NOTHING, PLACE 0, no HANDLERS, no FLAG");
        MonitorTurns x = afterALife();
        toldIs(x, T_ENDED, 5, F_OWN, 41, 1, NONE, NONE, 2, 6);
        DUE.is("thread(0, 1, 0)", x.thread(0, 1, 0), 1);
        toldIs(x, T_NEW, 0, 0, 0, 0, NONE, NONE, 0, 0);
        for (int i = 0; i < 6; i++) {
            DUE.is("register(0, " + i + ")", x.register(0, i), 0);
            DUE.is("hand(0, " + i + ")", x.hand(0, i), NONE);
        }
    }

    private static void threadTakesNoActYet() {
        DUE.sentence("no failure met, no ACT begun: 1.");
        MonitorTurns x = afterALife();
        int begun = x.count(15);
        program(x, 0, op(CAUGHT, 0, 1), op(REST));
        x.thread(0, 0, 0);
        registers(x, 0, 8, 8);
        DUE.is("told(0, 8)", x.told(0, 8), 0);
        x.start(0);
        x.turn();
        DUE.is("the KIND of the failure met last", x.register(0, 0), 0);
        DUE.is("its NUMBER", x.register(0, 1), 0);
        DUE.is("told(0, 8)", x.told(0, 8), 1);
        DUE.is("count(15): those begun ever", x.count(15), begun + 1);
        // a HANDLER of its earlier life does not meet its failures
        x = afterALife();
        program(x, 0, op(RAISE, 0));
        x.thread(0, 0, 0);
        x.start(0);
        x.turn();
        DUE.is("told(0, 2)", x.told(0, 2), F_OWN);
        DUE.is("told(0, 3)", x.told(0, 3), 0);
    }

    // ---- promise 10: set

    private static void setEachRegister() {
        DUE.sentence("A REGISTER of a THREAD becomes v: 1.");
        MonitorTurns x = inState(T_NEW);
        x.thread(1, 1, 0);
        int[] values = {LEAST, MOST, -1, 0, NONE, 7};
        for (int r = 0; r < 6; r++) {
            DUE.is("set(0, " + r + ", ..)", x.set(0, r, values[r]), 1);
        }
        for (int r = 0; r < 6; r++) {
            DUE.is("register(0, " + r + ")", x.register(0, r), values[r]);
            DUE.is("register(1, " + r + ")", x.register(1, r), 0);
        }
    }

    private static void setIsBad() {
        DUE.sentence("BAD: (set)");
        MonitorTurns x = inState(T_NEW);
        for (int bad : row(-1, 6, LEAST, MOST)) {
            DUE.is("set(" + bad + ", 0, 1)", x.set(bad, 0, 1), BAD);
            DUE.is("set(0, " + bad + ", 1)", x.set(0, bad, 1), BAD);
        }
        for (int r = 0; r < 6; r++) {
            DUE.is("register(0, " + r + ")", x.register(0, r), 0);
        }
    }

    private static void setOfOneThatIsNone() {
        DUE.sentence("BAD: also a THREAD that is NONE.");
        MonitorTurns x = new MonitorTurns();
        for (int t = 0; t < 6; t++) {
            for (int r = 0; r < 6; r++) {
                DUE.is("set(" + t + ", " + r + ", 5)", x.set(t, r, 5), BAD);
                DUE.is("register(" + t + ", " + r + ")", x.register(t, r), 0);
            }
        }
    }

    private static void setInEachState() {
        DUE.sentence("a THREAD that is NONE (set: no other state is refused)");
        for (int state = T_NEW; state <= T_ENDED; state++) {
            MonitorTurns x = inState(state);
            DUE.is("set() in state " + state, x.set(0, 5, state), 1);
            DUE.is("register(0, 5)", x.register(0, 5), state);
            DUE.is("told(0, 0)", x.told(0, 0), state);
        }
    }

    // ---- promise 11: give

    private static void giveEachHand() {
        DUE.sentence("A HAND of a THREAD becomes a THING");
        MonitorTurns x = shelf();
        x.thread(0, 0, 0);
        x.thread(1, 0, 0);
        for (int h = 0; h < 6; h++) {
            DUE.is("give(0, " + h + ", ..)", x.give(0, h, SECOND_BOX - h), 1);
        }
        for (int h = 0; h < 6; h++) {
            DUE.is("hand(0, " + h + ")", x.hand(0, h), SECOND_BOX - h);
            DUE.is("hand(1, " + h + ")", x.hand(1, h), NONE);
        }
        DUE.is("give(0, 0, 0), the first THING", x.give(0, 0, 0), 1);
        DUE.is("hand(0, 0)", x.hand(0, 0), 0);
    }

    private static void giveNothing() {
        DUE.sentence("(NONE: NOTHING): 1.");
        MonitorTurns x = inState(T_NEW);
        DUE.is("hand(0, 1)", x.hand(0, 1), 1);
        DUE.is("give(0, 1, NONE)", x.give(0, 1, NONE), 1);
        DUE.is("hand(0, 1)", x.hand(0, 1), NONE);
        DUE.is("hand(0, 0)", x.hand(0, 0), 0);
        DUE.is("give(0, 1, NONE), again", x.give(0, 1, NONE), 1);
        x = new MonitorTurns();
        x.thread(0, 0, 0);
        DUE.is("give(0, 0, NONE) without THINGS", x.give(0, 0, NONE), 1);
    }

    private static void giveIsBad() {
        DUE.sentence("BAD (give: t, h, thing)");
        MonitorTurns x = inState(T_NEW);
        for (int bad : row(-1, 6, LEAST, MOST)) {
            DUE.is("give(" + bad + ", 0, 1)", x.give(bad, 0, 1), BAD);
            DUE.is("give(0, " + bad + ", 1)", x.give(0, bad, 1), BAD);
        }
        for (int thing : row(-1, -2, -3, -5, 2, 31, 32, LEAST, MOST)) {
            DUE.is("give(0, 0, " + thing + ")", x.give(0, 0, thing), BAD);
        }
        DUE.is("hand(0, 0)", x.hand(0, 0), 0);
        x = new MonitorTurns();
        x.thread(0, 0, 0);
        DUE.is("give(0, 0, 0) without THINGS", x.give(0, 0, 0), BAD);
    }

    private static void giveOfOneThatIsNone() {
        DUE.sentence("BAD likewise. (give: a THREAD that is NONE)");
        MonitorTurns x = shelf();
        for (int t = 0; t < 6; t++) {
            DUE.is("give(" + t + ", 0, 0)", x.give(t, 0, 0), BAD);
            DUE.is("give(" + t + ", 0, NONE)", x.give(t, 0, NONE), BAD);
            DUE.is("hand(" + t + ", 0)", x.hand(t, 0), NONE);
        }
    }

    private static void giveInEachState() {
        DUE.sentence("a THREAD that is NONE (give: no other state is refused)");
        for (int state = T_NEW; state <= T_ENDED; state++) {
            MonitorTurns x = inState(state);
            DUE.is("give() in state " + state, x.give(0, 5, 1), 1);
            DUE.is("hand(0, 5)", x.hand(0, 5), 1);
            DUE.is("told(0, 0)", x.told(0, 0), state);
        }
    }

    // ---- promises 12, 13: start, broken

    private static void startOfNew() {
        DUE.sentence("A NEW THREAD is READY: 1.");
        MonitorTurns x = new MonitorTurns();
        for (int t = 0; t < 6; t++) {
            x.thread(t, 0, 0);
            DUE.is("start(" + t + ")", x.start(t), 1);
            DUE.is("told(" + t + ", 0)", x.told(t, 0), T_READY);
        }
        DUE.is("count(14)", x.count(14), 6);
    }

    private static void startIsBad() {
        DUE.sentence("BAD; STATE (start: BAD)");
        MonitorTurns x = inState(T_NEW);
        for (int t : row(-1, 6, LEAST, MOST)) {
            DUE.is("start(" + t + ")", x.start(t), BAD);
        }
        DUE.is("told(0, 0)", x.told(0, 0), T_NEW);
    }

    private static void startOfWhatIsNotNew() {
        DUE.sentence("STATE: it is not NEW. (start)");
        for (int state = T_NONE; state <= T_ENDED; state++) {
            MonitorTurns x = inState(state);
            DUE.is("start() in state " + state, x.start(0), state == T_NEW ? 1 : STATE);
            DUE.is("told(0, 0)", x.told(0, 0), state == T_NEW ? T_READY : state);
        }
    }

    private static void brokenUnderWay() {
        DUE.sentence("A THREAD is BROKEN: 1 if it is UNDER WAY");
        for (int state = T_READY; state <= T_JOINING; state++) {
            DUE.is("broken() in state " + state, inState(state).broken(0), 1);
        }
    }

    private static void brokenElse() {
        DUE.sentence("else 0.");
        for (int state : row(T_NONE, T_NEW, T_ENDED)) {
            MonitorTurns x = inState(state);
            DUE.is("broken() in state " + state, x.broken(0), 0);
            DUE.is("told(0, 0)", x.told(0, 0), state);
            DUE.is("told(0, 4)", x.told(0, 4), 0);
        }
    }

    private static void brokenIsBad() {
        DUE.sentence("else 0. BAD.");
        MonitorTurns x = inState(T_READY);
        for (int t : row(-1, 6, LEAST, MOST)) {
            DUE.is("broken(" + t + ")", x.broken(t), BAD);
        }
        for (int t = 1; t < 6; t++) {
            DUE.is("broken(" + t + ") of one that is NONE", x.broken(t), 0);
        }
    }
}
