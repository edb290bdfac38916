/** Handlers and failures: RAISE, TRY, DONE, CAUGHT, ASK, as turn and told (16, 18, 23) show them. */
public final class FailuresTest {
    private static final Due DUE = new Due("FailuresTest");
    private static final int[] REST = Ops.op(Ops.REST);
    private static MonitorTurns x;

    public static void main(String[] args) {
        raise();
        masks();
        latestHandler();
        jumpsLeaveHandlers();
        eightHandlers();
        done();
        caught();
        handlerBehindTheEnd();
        failuresAreOfTheirThread();
        DUE.close();
    }

    private static void raise() {
        x = new MonitorTurns();
        Ops.started(x, 0, REST, Ops.op(Ops.RAISE, 2), REST);
        Ops.registers(x, 0, 1, 2, Ops.LEAST);
        DUE.is("run(60)", x.run(60), 2);
        DUE.is("told(0, 0)", x.told(0, 0), Ops.T_ENDED);
        DUE.is("told(0, 1)", x.told(0, 1), 1);
        DUE.is("told(0, 2)", x.told(0, 2), Ops.F_OWN);
        DUE.is("told(0, 3)", x.told(0, 3), Ops.LEAST);
        DUE.is("told(0, 8)", x.told(0, 8), 2);
        DUE.is("count(7)", x.count(7), 1);
        DUE.is("count(12)", x.count(12), 1);
        DUE.is("count(16)", x.count(16), 0);
        // a failure that is not OWN has the NUMBER 0, whatever was raised ahead of it
        Ops.started(x, 0, Ops.op(Ops.TRY, 2, 128), Ops.op(Ops.RAISE, 2), Ops.op(Ops.BY, 0, 0));
        Ops.registers(x, 0, 0, 0, 55);
        x.run(60);
        DUE.is("told(0, 2)", x.told(0, 2), Ops.F_ZERO);
        DUE.is("told(0, 3)", x.told(0, 3), 0);
    }

    /** An act for each KIND of failure, in a thread without things whose registers are 0. */
    private static int[][] failing() {
        return new int[][] {
            null, Ops.op(Ops.ENTER, 0), Ops.op(Ops.HOLD, 0, 5), Ops.op(Ops.COUNT, 0, 1), Ops.op(Ops.PUT, 2, 0, 1),
            Ops.op(Ops.NEW, 0, Ops.INTS, 4), Ops.op(Ops.BY, 0, 0), Ops.op(Ops.RAISE, 0), Ops.op(Ops.LEAVE, 1),
            Ops.op(Ops.SLEEP, 0), Ops.op(Ops.START, 0), Ops.op(Ops.NEW, 0, Ops.INTS, 5)};
    }

    private static void masks() {
        for (int kind = 1; kind <= 11; kind++) {
            for (int bit = 0; bit < 12; bit++) {
                oneMask(kind, 1 << bit, bit == kind);
            }
            oneMask(kind, 0, false);
            oneMask(kind, 4095, true);
            oneMask(kind, 4095 - (1 << kind), false);
        }
    }

    private static void oneMask(int kind, int mask, boolean met) {
        x = new MonitorTurns();
        x.thing(Ops.PLAIN, 0);
        x.thing(Ops.BOXES, 1);
        Ops.started(x, 0, Ops.op(Ops.TRY, 3, mask), failing()[kind], REST, REST, REST);
        Ops.hands(x, 0, Ops.NONE, 0, 1);
        Ops.registers(x, 0, 0, 0, 0, 0, -1, 13);
        if (kind == Ops.F_INDEX) {
            x.set(0, 5, 2);
        }
        if (kind == Ops.F_BROKEN) {
            x.broken(0);
        }
        String what = "kind " + kind + " mask " + mask;
        x.run(2);
        DUE.is(what + " failures", x.count(kind), 1);
        DUE.is(what + " all", x.count(12), 1);
        DUE.is(what + " met", x.count(16), met ? 1 : 0);
        DUE.is(what + " state", x.told(0, 0), met ? Ops.T_READY : Ops.T_ENDED);
        DUE.is(what + " place", x.told(0, 1), met ? 3 : 1);
        DUE.is(what + " ended by", x.told(0, 2), met ? 0 : kind);
        DUE.is(what + " handlers", x.told(0, 7), met ? 0 : 1);
        DUE.is(what + " in the log", x.log(0, 2), kind);
    }

    /** Handlers for OWN at 5 and 6, with others around them: the latest that has the bit is met. */
    private static void latestHandler() {
        x = new MonitorTurns();
        Ops.started(x, 0, Ops.op(Ops.TRY, 5, 128), Ops.op(Ops.TRY, 6, 128 + 64), Ops.op(Ops.TRY, 7, 64),
                Ops.op(Ops.TRY, 8, 2), Ops.op(Ops.RAISE, 0), Ops.op(Ops.BY, 0, 1), Ops.op(Ops.RAISE, 0), REST, REST);
        Ops.registers(x, 0, 3);
        x.run(4);
        DUE.is("told(0, 7)", x.told(0, 7), 4);
        x.turn();
        DUE.is("told(0, 1): the later one", x.told(0, 1), 6);
        DUE.is("told(0, 7): it and those behind it went", x.told(0, 7), 1);
        x.turn();
        DUE.is("told(0, 1): the one that was left", x.told(0, 1), 5);
        DUE.is("told(0, 7)", x.told(0, 7), 0);
        DUE.is("count(16)", x.count(16), 2);
        x.turn();
        DUE.is("told(0, 2): nobody meets it", x.told(0, 2), Ops.F_ZERO);
        DUE.is("count(12)", x.count(12), 3);
        DUE.is("count(16)", x.count(16), 2);
    }

    private static void jumpsLeaveHandlers() {
        x = new MonitorTurns();
        Ops.started(x, 0, Ops.op(Ops.TRY, 0, 0), Ops.op(Ops.GO, 2), Ops.op(Ops.GOZ, 0, 0));
        x.run(4);
        DUE.is("told(0, 7)", x.told(0, 7), 2);
        DUE.is("told(0, 0)", x.told(0, 0), Ops.T_READY);
    }

    private static void eightHandlers() {
        x = new MonitorTurns();
        Ops.started(x, 0, Ops.op(Ops.TRY, 0, 0), Ops.op(Ops.GO, 0));
        DUE.is("run(60)", x.run(60), 17);
        DUE.is("told(0, 2)", x.told(0, 2), Ops.F_ROOM);
        DUE.is("told(0, 7)", x.told(0, 7), 8);
        DUE.is("told(0, 1)", x.told(0, 1), 0);
        // a ninth fails by ROOM, which a handler may meet
        x = new MonitorTurns();
        Ops.started(x, 0, Ops.op(Ops.TRY, 3, 2048), Ops.op(Ops.TRY, 0, 0), Ops.op(Ops.GO, 1), REST, REST);
        DUE.is("run(16)", x.run(16), 16);
        DUE.is("told(0, 1)", x.told(0, 1), 3);
        DUE.is("told(0, 7)", x.told(0, 7), 0);
        DUE.is("count(11)", x.count(11), 1);
    }

    private static void done() {
        x = new MonitorTurns();
        Ops.started(x, 0, Ops.op(Ops.DONE), Ops.op(Ops.TRY, 5, 128), Ops.op(Ops.TRY, 0, 0), Ops.op(Ops.DONE),
                Ops.op(Ops.RAISE, 0), Ops.op(Ops.TRY, 0, 128), Ops.op(Ops.DONE), Ops.op(Ops.RAISE, 0));
        x.turn();
        DUE.is("DONE without one", x.told(0, 7), 0);
        x.run(3);
        DUE.is("told(0, 7): the earlier one is left", x.told(0, 7), 1);
        x.turn();
        DUE.is("told(0, 1)", x.told(0, 1), 5);
        x.run(60);
        DUE.is("told(0, 2): DONE took the only one", x.told(0, 2), Ops.F_OWN);
        DUE.is("told(0, 1)", x.told(0, 1), 7);
    }

    private static void caught() {
        x = new MonitorTurns();
        int[] caught = Ops.op(Ops.CAUGHT, 1, 2);
        Ops.started(x, 0, caught, Ops.op(Ops.TRY, 3, 4095), Ops.op(Ops.RAISE, 0), caught,
                Ops.op(Ops.TRY, 6, 4095), Ops.op(Ops.BY, 0, 5), Ops.op(Ops.CAUGHT, 3, 4), Ops.op(Ops.CAUGHT, 0, 0));
        Ops.registers(x, 0, -12, 9, 9, 9, 9);
        x.turn();
        DUE.is("CAUGHT without: the KIND", x.register(0, 1), 0);
        DUE.is("CAUGHT without: the NUMBER", x.register(0, 2), 0);
        x.run(3);
        DUE.is("CAUGHT: the KIND", x.register(0, 1), Ops.F_OWN);
        DUE.is("CAUGHT: the NUMBER", x.register(0, 2), -12);
        x.run(3);
        DUE.is("CAUGHT the later one: the KIND", x.register(0, 3), Ops.F_ZERO);
        DUE.is("CAUGHT the later one: the NUMBER", x.register(0, 4), 0);
        x.turn();
        DUE.is("CAUGHT into one: the NUMBER comes last", x.register(0, 0), 0);
    }

    private static void handlerBehindTheEnd() {
        for (int place = 2; place <= 40; place += 19) {
            x = new MonitorTurns();
            Ops.started(x, 0, Ops.op(Ops.TRY, place, 4095), Ops.op(Ops.RAISE, 0));
            DUE.is("run(60)", x.run(60), 2);
            DUE.is("told(0, 0)", x.told(0, 0), Ops.T_ENDED);
            DUE.is("told(0, 1)", x.told(0, 1), 2);
            DUE.is("told(0, 2): it ENDED at the END", x.told(0, 2), 0);
            DUE.is("told(0, 3)", x.told(0, 3), 0);
            DUE.is("count(16)", x.count(16), 1);
        }
    }

    private static void failuresAreOfTheirThread() {
        x = new MonitorTurns();
        Ops.started(x, 0, Ops.op(Ops.TRY, 0, 4095), Ops.op(Ops.GO, 1));
        Ops.started(x, 1, Ops.op(Ops.RAISE, 0));
        Ops.registers(x, 1, 8);
        x.run(4);
        DUE.is("told(1, 2)", x.told(1, 2), Ops.F_OWN);
        DUE.is("told(1, 3)", x.told(1, 3), 8);
        DUE.is("told(0, 0)", x.told(0, 0), Ops.T_READY);
        DUE.is("told(0, 7)", x.told(0, 7), 1);
    }
}
