/** The ACTS 31 to 35 and FAILURES (part 2 of the terms): a test for each sentence that names an edge. */
public final class EdgesOfFailuresTest extends Scenes {
    private static final Due DUE = new Due("EdgesOfFailuresTest");

    public static void main(String[] args) {
        ask();
        askAgain();
        raise();
        tryHasBits();
        tryWithoutBits();
        eightHandlers();
        roomIsMetByOneOfTheEight();
        doneTakesTheLatest();
        doneWithoutHandlers();
        caught();
        caughtWithout();
        caughtIntoOne();
        caughtIsOfThisThread();
        kinds();
        nullAheadOfOwner();
        ownerAheadOfBroken();
        indexAheadOfBroken();
        indexAheadOfState();
        numberOfOwnAlone();
        failedActs();
        latestHandlerWithTheBit();
        handlersBehindGo();
        handlersAheadStay();
        handlerGoesAsByGo();
        handlerAtTheEnd();
        jumpsLeaveHandlers();
        withoutHandler();
        DUE.close();
    }

    private static final int[] NO_HANDS = {};

    /** Thread 0 of a new object with a shelf, these acts and a REST behind them, and as many turns. */
    private static MonitorTurns acts(int[] registers, int[]... acts) {
        return did(shelf(), NO_HANDS, registers, acts);
    }

    // ---- ASK, RAISE, TRY, DONE, CAUGHT

    private static void ask() {
        DUE.sentence("31 ASK a: Ra becomes 1 if the FLAG is set, else 0");
        DUE.is("ASK without", acts(row(9), op(ASK, 0)).register(0, 0), 0);
        DUE.is("ASK with", acts(row(9, 0), op(BREAK, 1), op(ASK, 0)).register(0, 0), 1);
        DUE.is("ASK with one set twice", acts(row(9, 0), op(BREAK, 1), op(BREAK, 1), op(ASK, 0)).register(0, 0), 1);
    }

    private static void askAgain() {
        DUE.sentence("it is not set then");
        MonitorTurns x = acts(row(9, 9, 0), op(BREAK, 2), op(BREAK, 2), op(ASK, 0), op(ASK, 1));
        DUE.is("ASK", x.register(0, 0), 1);
        DUE.is("ASK again", x.register(0, 1), 0);
        DUE.is("told(0, 4)", x.told(0, 4), 0);
    }

    private static void raise() {
        DUE.sentence("32 RAISE a: OWN, its NUMBER is Ra.");
        for (int number : row(0, 1, -1, LEAST, MOST)) {
            MonitorTurns x = acts(row(7, 7, 7, 7, 7, number), op(RAISE, 5));
            DUE.is("told(0, 2)", x.told(0, 2), F_OWN);
            DUE.is("told(0, 3)", x.told(0, 3), number);
        }
    }

    /** For each KIND an act that FAILS by it, in a thread with the hands and registers of failing(). */
    private static final int[][] FAILING = {
        null, op(ENTER, 0), op(HOLD, 0, 5), op(COUNT, 0, 1), op(PUT, 2, 0, 1), op(NEW, 0, INTS, 4), op(BY, 0, 0),
        op(RAISE, 0), op(LEAVE, 1), op(SLEEP, 0), op(START, 0), op(NEW, 0, INTS, 5)};

    /** Thread 0 with a HANDLER for PLACE 3 and m, and one act that FAILS by a KIND: both were done. */
    private static MonitorTurns failing(int kind, int m) {
        MonitorTurns x = new MonitorTurns();
        x.thing(PLAIN, 0);
        x.thing(BOXES, 1);
        go(x, 0, row(NONE, 0, 1), row(0, 0, 0, 0, -1, 13), op(TRY, 3, m), FAILING[kind], op(REST), op(REST),
                op(REST));
        if (kind == F_BROKEN) {
            x.broken(0);
        }
        x.run(2);
        return x;
    }

    private static void tryHasBits() {
        DUE.sentence("for PLACE a and failures of which m has the bit 2 to the KIND");
        for (int kind = F_NULL; kind <= F_ROOM; kind++) {
            for (int m : row(1 << kind, 4095, 1 << kind | 1)) {
                MonitorTurns x = failing(kind, m);
                DUE.is("told(0, 1) of KIND " + kind + ", m " + m, x.told(0, 1), 3);
                DUE.is("told(0, 0)", x.told(0, 0), T_READY);
                DUE.is("told(0, 7)", x.told(0, 7), 0);
                DUE.is("count(16)", x.count(16), 1);
            }
        }
    }

    private static void tryWithoutBits() {
        DUE.sentence("of which m has the bit (m without it: 0, all others)");
        for (int kind = F_NULL; kind <= F_ROOM; kind++) {
            for (int m : row(0, 1, 1 << kind - 1, (1 << kind + 1) % 4096, 4095 - (1 << kind))) {
                MonitorTurns x = failing(kind, m);
                DUE.is("told(0, 2) of KIND " + kind + ", m " + m, x.told(0, 2), kind);
                DUE.is("told(0, 1)", x.told(0, 1), 1);
                DUE.is("told(0, 7)", x.told(0, 7), 1);
                DUE.is("count(16)", x.count(16), 0);
            }
        }
    }

    private static void eightHandlers() {
        DUE.sentence("(ROOM: there are 8)");
        int[] more = op(TRY, 9, 0);
        MonitorTurns x = acts(row(), more, more, more, more, more, more, more, more);
        DUE.is("told(0, 7)", x.told(0, 7), 8);
        DUE.is("told(0, 0)", x.told(0, 0), T_READY);
        x = acts(row(), more, more, more, more, more, more, more, more, more);
        DUE.is("told(0, 7)", x.told(0, 7), 8);
        DUE.is("told(0, 2)", x.told(0, 2), F_ROOM);
        DUE.is("told(0, 1)", x.told(0, 1), 8);
        // one that went makes room for another one
        x = acts(row(), more, more, more, more, more, more, more, more, op(DONE), more);
        DUE.is("told(0, 7)", x.told(0, 7), 8);
        DUE.is("told(0, 2)", x.told(0, 2), 0);
    }

    private static void roomIsMetByOneOfTheEight() {
        DUE.sentence("TRY .. (ROOM: there are 8), which a HANDLER may meet");
        int[] more = op(TRY, 11, 0);
        int[] room = op(TRY, 10, 1 << F_ROOM);
        MonitorTurns x = acts(row(), more, more, room, more, more, more, more, more, more, op(REST), op(REST));
        DUE.is("count(11)", x.count(11), 1);
        DUE.is("told(0, 7): it and those behind it went", x.told(0, 7), 2);
        DUE.is("log(1, 1)", x.log(1, 1), 10);
        x = acts(row(), more, more, more, more, more, more, more, room, more, op(REST), op(REST));
        DUE.is("told(0, 7): it alone went", x.told(0, 7), 7);
        DUE.is("count(16)", x.count(16), 1);
    }

    private static void doneTakesTheLatest() {
        DUE.sentence("34 DONE: the latest HANDLER goes");
        MonitorTurns x = acts(row(5), op(TRY, 4, 128), op(TRY, 5, 128), op(DONE), op(RAISE, 0), op(REST));
        DUE.is("told(0, 7)", x.told(0, 7), 0);
        DUE.is("told(0, 1): behind the earlier one's PLACE", x.told(0, 1), 5);
        DUE.is("log(0, 1)", x.log(0, 1), 4);
        x = acts(row(5), op(TRY, 4, 128), op(DONE), op(RAISE, 0));
        DUE.is("told(0, 2): none is left", x.told(0, 2), F_OWN);
    }

    private static void doneWithoutHandlers() {
        DUE.sentence("if there is one (DONE)");
        MonitorTurns x = acts(row(), op(DONE), op(DONE), op(TRY, 0, 0), op(DONE), op(DONE), op(TRY, 0, 0));
        DUE.is("told(0, 1)", x.told(0, 1), 6);
        DUE.is("told(0, 7)", x.told(0, 7), 1);
        DUE.is("count(12)", x.count(12), 0);
    }

    private static void caught() {
        DUE.sentence("35 CAUGHT a b: Ra becomes the KIND of the failure that a HANDLER .. met last, Rb its NUMBER");
        for (int kind = F_NULL; kind <= F_ROOM; kind++) {
            MonitorTurns x = new MonitorTurns();
            x.thing(PLAIN, 0);
            x.thing(BOXES, 1);
            go(x, 0, row(NONE, 0, 1), row(0, 0, 0, 0, -1, 13), op(TRY, 2, 4095), op(RAISE, 5), op(TRY, 4, 4095),
                    FAILING[kind], op(CAUGHT, 4, 5), op(REST));
            if (kind == F_BROKEN) {
                x.broken(0);
            }
            x.run(5);
            DUE.is("the KIND", x.register(0, 4), kind);
            DUE.is("the NUMBER", x.register(0, 5), 0);
        }
        for (int number : row(LEAST, MOST, -1)) {
            MonitorTurns x = acts(row(number), op(TRY, 2, 4095), op(RAISE, 0), op(CAUGHT, 4, 5));
            DUE.is("the KIND", x.register(0, 4), F_OWN);
            DUE.is("the NUMBER", x.register(0, 5), number);
        }
    }

    private static void caughtWithout() {
        DUE.sentence("(0, 0 without)");
        MonitorTurns x = acts(row(8, 9), op(TRY, 0, 4095), op(CAUGHT, 0, 1));
        DUE.is("the KIND", x.register(0, 0), 0);
        DUE.is("the NUMBER", x.register(0, 1), 0);
    }

    private static void caughtIntoOne() {
        DUE.sentence("Ra becomes the KIND .., Rb its NUMBER (a and b the same)");
        DUE.is("register(0, 2)", acts(row(5), op(TRY, 2, 4095), op(RAISE, 0), op(CAUGHT, 2, 2)).register(0, 2), 5);
    }

    private static void caughtIsOfThisThread() {
        DUE.sentence("a HANDLER of this THREAD");
        MonitorTurns x = shelf();
        go(x, 0, NO_HANDS, row(7), op(TRY, 2, 4095), op(RAISE, 0), op(REST), op(REST));
        go(x, 1, NO_HANDS, row(8, 8), op(REST), op(REST), op(CAUGHT, 0, 1), op(REST));
        x.run(6);
        DUE.is("count(16)", x.count(16), 1);
        DUE.is("told(1, 1)", x.told(1, 1), 3);
        DUE.is("the KIND", x.register(1, 0), 0);
        DUE.is("the NUMBER", x.register(1, 1), 0);
    }

    // ---- FAILURES

    private static void kinds() {
        DUE.sentence("FAILURES: 1 NULL, 2 INDEX, 3 CAST, 4 STORE, 5 SIZE, 6 ZERO, 7 OWN, 8 OWNER, 9 BROKEN, 10 STATE");
        for (int kind = F_NULL; kind <= F_ROOM; kind++) {
            MonitorTurns x = failing(kind, 0);
            DUE.is("told(0, 2)", x.told(0, 2), kind);
            DUE.is("count(12)", x.count(12), 1);
            for (int other = F_NULL; other <= F_ROOM; other++) {
                DUE.is("count(" + other + ")", x.count(other), other == kind ? 1 : 0);
            }
            DUE.is("log(0, 2)", x.log(0, 2), kind);
        }
    }

    private static void nullAheadOfOwner() {
        DUE.sentence("the first in the order told is met (NULL, OWNER)");
        for (int op : row(ENTER, LEAVE, WAIT, TELL, TELLALL)) {
            MonitorTurns x = acts(row(0), op(BREAK, 0), op(op, 3));
            DUE.is("told(0, 2) of op " + op, x.told(0, 2), F_NULL);
            DUE.is("told(0, 4)", x.told(0, 4), 1);
        }
    }

    private static void ownerAheadOfBroken() {
        DUE.sentence("the first in the order told is met (OWNER, BROKEN)");
        MonitorTurns x = did(shelf(), row(PLAIN), row(0), op(BREAK, 0), op(WAIT, 0, 0));
        DUE.is("told(0, 2)", x.told(0, 2), F_OWNER);
        DUE.is("told(0, 4): the FLAG stays", x.told(0, 4), 1);
    }

    private static void indexAheadOfBroken() {
        DUE.sentence("the first in the order told is met (INDEX, BROKEN)");
        for (int t : row(-1, 6, LEAST, MOST)) {
            MonitorTurns x = acts(row(0, t), op(BREAK, 0), op(JOIN, 1));
            DUE.is("told(0, 2)", x.told(0, 2), F_INDEX);
            DUE.is("told(0, 4): the FLAG stays", x.told(0, 4), 1);
        }
    }

    private static void indexAheadOfState() {
        DUE.sentence("the first in the order told is met (INDEX, STATE)");
        for (int t : row(-1, 6, LEAST, MOST)) {
            DUE.is("told(0, 2)", acts(row(t), op(START, 0)).told(0, 2), F_INDEX);
        }
        DUE.is("told(0, 2)", acts(row(0), op(START, 0)).told(0, 2), F_STATE);
    }

    private static void numberOfOwnAlone() {
        DUE.sentence("the NUMBER is that of OWN, else 0");
        for (int kind = F_NULL; kind <= F_ROOM; kind++) {
            DUE.is("told(0, 3) of KIND " + kind, failing(kind, 0).told(0, 3), 0);
        }
        // whatever was raised ahead of it
        MonitorTurns x = acts(row(55, 0), op(TRY, 2, 128), op(RAISE, 0), op(BY, 0, 1));
        DUE.is("told(0, 2)", x.told(0, 2), F_ZERO);
        DUE.is("told(0, 3)", x.told(0, 3), 0);
    }

    private static void failedActs() {
        DUE.sentence("An ACT that FAILS does nothing (but as told)");
        for (int kind = F_NULL; kind <= F_ROOM; kind++) {
            MonitorTurns x = failing(kind, 0);
            int[] registers = {0, 0, 0, 0, -1, 13};
            int[] hands = {NONE, 0, 1, NONE, NONE, NONE};
            for (int i = 0; i < 6; i++) {
                DUE.is("register(0, " + i + ") of KIND " + kind, x.register(0, i), registers[i]);
                DUE.is("hand(0, " + i + ") of KIND " + kind, x.hand(0, i), hands[i]);
            }
            DUE.is("told(0, 1): PLACE stays at it", x.told(0, 1), 1);
            DUE.is("count(13)", x.count(13), 2);
            DUE.is("item(1, 0)", x.item(1, 0), NONE);
            DUE.is("of(0, 2)", x.of(0, 2), NONE);
        }
    }

    private static void latestHandlerWithTheBit() {
        DUE.sentence("the latest HANDLER that has its bit");
        int own = 1 << F_OWN;
        // the PLACES 6 to 9 are those of the four HANDLERS
        int[][] masks = {{own, own, own, own}, {own, own, own, 0}, {own, own, 0, 0}, {own, 0, 4095 - own, 0}};
        for (int last = 0; last < 4; last++) {
            int[] m = masks[last];
            MonitorTurns x = shelf();
            go(x, 0, NO_HANDS, row(5), op(TRY, 6, m[0]), op(TRY, 7, m[1]), op(TRY, 8, m[2]), op(TRY, 9, m[3]),
                    op(RAISE, 0), op(REST), op(REST), op(REST), op(REST), op(REST), op(REST));
            x.run(5);
            DUE.is("told(0, 1)", x.told(0, 1), 9 - last);
            DUE.is("told(0, 7)", x.told(0, 7), 3 - last);
        }
    }

    private static void handlersBehindGo() {
        DUE.sentence("and those made behind it, go");
        MonitorTurns x = acts(row(5), op(TRY, 6, 0), op(TRY, 6, 128), op(TRY, 6, 2), op(TRY, 6, 4), op(RAISE, 0),
                op(REST), op(BY, 1, 1));
        DUE.is("told(0, 7)", x.told(0, 7), 1);
        DUE.is("told(0, 2): none of them is left", x.told(0, 2), F_ZERO);
    }

    private static void handlersAheadStay() {
        DUE.sentence("the latest HANDLER .., and those made behind it, go (those made ahead of it stay)");
        int both = 1 << F_OWN | 1 << F_ZERO;
        MonitorTurns x = shelf();
        go(x, 0, NO_HANDS, row(5, 0), op(TRY, 6, both), op(TRY, 5, both), op(TRY, 9, 2), op(RAISE, 0), op(REST),
                op(BY, 0, 1), op(REST), op(REST));
        x.run(4);
        DUE.is("told(0, 1)", x.told(0, 1), 5);
        DUE.is("told(0, 7)", x.told(0, 7), 1);
        x.turn();
        // RAISE is met by the second one, BY by the first
        DUE.is("told(0, 7)", x.told(0, 7), 0);
        DUE.is("count(16)", x.count(16), 2);
        DUE.is("told(0, 1)", x.told(0, 1), 6);
    }

    private static void handlerGoesAsByGo() {
        DUE.sentence("PLACE becomes that one's, as by GO");
        MonitorTurns x = new MonitorTurns();
        go(x, 0, NO_HANDS, row(3), op(TRY, 0, 128), op(RAISE, 0));
        x.run(2);
        DUE.is("told(0, 1): the first ACT", x.told(0, 1), 0);
        DUE.is("told(0, 0)", x.told(0, 0), T_READY);
        x = new MonitorTurns();
        go(x, 0, NO_HANDS, row(3), op(TRY, 1, 128), op(RAISE, 0));
        x.run(2);
        DUE.is("told(0, 1): the very one", x.told(0, 1), 1);
        x.turn();
        DUE.is("told(0, 2): and now without", x.told(0, 2), F_OWN);
    }

    private static void handlerAtTheEnd() {
        DUE.sentence("as by GO (the END, if there are not so many ACTS)");
        for (int place : row(2, 3, 40)) {
            MonitorTurns x = new MonitorTurns();
            go(x, 0, NO_HANDS, row(3), op(TRY, place, 128), op(RAISE, 0));
            DUE.is("run(60)", x.run(60), 2);
            DUE.is("told(0, 0)", x.told(0, 0), T_ENDED);
            DUE.is("told(0, 1)", x.told(0, 1), 2);
            DUE.is("told(0, 2): not by a failure", x.told(0, 2), 0);
            DUE.is("told(0, 3)", x.told(0, 3), 0);
            DUE.is("count(16)", x.count(16), 1);
        }
    }

    private static void jumpsLeaveHandlers() {
        DUE.sentence("(a jump leaves HANDLERS as they are)");
        MonitorTurns x = acts(row(0), op(TRY, 0, 0), op(TRY, 0, 0), op(GO, 3), op(GOZ, 4, 0));
        DUE.is("told(0, 7)", x.told(0, 7), 2);
        DUE.is("told(0, 1)", x.told(0, 1), 4);
        x = new MonitorTurns();
        go(x, 0, NO_HANDS, row(), op(TRY, 0, 0), op(GO, 40));
        x.run(2);
        DUE.is("told(0, 7) at the END", x.told(0, 7), 1);
    }

    private static void withoutHandler() {
        DUE.sentence("without one the THREAD ENDS by it");
        MonitorTurns x = acts(row(-8), op(RAISE, 0));
        DUE.is("told(0, 0)", x.told(0, 0), T_ENDED);
        DUE.is("told(0, 2)", x.told(0, 2), F_OWN);
        DUE.is("told(0, 3)", x.told(0, 3), -8);
        // it alone
        x = shelf();
        go(x, 0, NO_HANDS, row(0), op(BY, 0, 0));
        go(x, 1, NO_HANDS, row(0), op(TRY, 0, 4095), op(REST), op(REST));
        x.run(3);
        DUE.is("told(0, 2)", x.told(0, 2), F_ZERO);
        DUE.is("told(1, 0)", x.told(1, 0), T_READY);
        DUE.is("told(1, 7)", x.told(1, 7), 1);
        DUE.is("told(1, 1)", x.told(1, 1), 2);
    }
}
