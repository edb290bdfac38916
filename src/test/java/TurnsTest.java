/** Promises 14 to 17: rule, order, turn, run. */
public final class TurnsTest {
    private static final Due DUE = new Due("TurnsTest");
    private static final int[] REST = Ops.op(Ops.REST);
    private static final int[] ROUND = Ops.op(Ops.GO, 0);
    private static MonitorTurns x;

    public static void main(String[] args) {
        ruleAndOrder();
        ruleZero();
        ruleOne();
        ruleChanges();
        idleStuckOver();
        run();
        full();
        runBeyondFull();
        DUE.close();
    }

    private static void ruleAndOrder() {
        x = new MonitorTurns();
        for (int bad : new int[] {-1, 2, Ops.MOST, Ops.LEAST}) {
            DUE.is("rule(" + bad + ")", x.rule(bad), Ops.BAD);
        }
        for (int bad : new int[] {-1, 3, Ops.MOST, Ops.LEAST}) {
            DUE.is("order(" + bad + ")", x.order(bad), Ops.BAD);
        }
        DUE.is("rule(1)", x.rule(1), 0);
        DUE.is("rule(1)", x.rule(1), 1);
        DUE.is("rule(2)", x.rule(2), Ops.BAD);
        DUE.is("rule(0)", x.rule(0), 1);
        DUE.is("order(1)", x.order(1), 0);
        DUE.is("order(2)", x.order(2), 1);
        DUE.is("order(3)", x.order(3), Ops.BAD);
        DUE.is("order(0)", x.order(0), 2);
    }

    private static void ranks(int... ranks) {
        x = new MonitorTurns();
        for (int t = 0; t < ranks.length; t++) {
            if (ranks[t] < 0) {
                continue;
            }
            Ops.program(x, t, ROUND);
            x.thread(t, t, ranks[t]);
            x.start(t);
        }
    }

    private static void turns(int... want) {
        for (int i = 0; i < want.length; i++) {
            DUE.is("turn() number " + i, x.turn(), want[i]);
        }
    }

    private static void ruleZero() {
        ranks(3, -1, 9, -1, -1, 0);
        turns(0, 2, 5, 0, 2, 5, 0);
        Ops.started(x, 1, REST, REST);
        turns(1, 2, 5, 0, 1, 2, 5, 0, 2);
        ranks(-1, -1, 4, -1, -1, -1);
        turns(2, 2, 2);
        Ops.started(x, 1, ROUND);
        turns(1, 2, 1);
        // an IDLE turn has no thread: the order goes on from the one ahead of it
        x = new MonitorTurns();
        Ops.started(x, 3, Ops.op(Ops.SLEEP, 0), ROUND);
        Ops.registers(x, 3, 2);
        turns(3, Ops.IDLE);
        Ops.started(x, 2, ROUND);
        Ops.started(x, 5, ROUND);
        turns(5, 2, 3, 5, 2);
    }

    private static void ruleOne() {
        ranks(3, 7, 9, 9, -1, 0);
        x.rule(1);
        turns(2, 2, 2);
        Ops.started(x, 4, ROUND);
        turns(2);
        ranks(3, 7, -1, 6, 7, 0);
        x.rule(1);
        turns(1, 1);
        ranks(0, 0, -1, -1, -1, -1);
        x.rule(1);
        turns(0, 0);
        x = new MonitorTurns();
        x.rule(1);
        Ops.program(x, 0, Ops.op(Ops.SLEEP, 0), ROUND);
        x.thread(0, 0, 9);
        x.set(0, 0, 2);
        x.start(0);
        Ops.started(x, 1, ROUND);
        turns(0, 1, 0, 0, 1, 0, 0, 1);
    }

    private static void ruleChanges() {
        ranks(1, 1, 1, 5, 1, 1);
        turns(0, 1);
        x.rule(1);
        turns(3, 3);
        x.rule(0);
        turns(4, 5, 0);
    }

    private static void idleStuckOver() {
        x = new MonitorTurns();
        DUE.is("turn() of nothing", x.turn(), Ops.OVER);
        Ops.made(x, 0, Ops.op(Ops.SLEEP, 0), Ops.op(Ops.JOIN, 1), REST);
        DUE.is("turn() of one that is NEW", x.turn(), Ops.OVER);
        DUE.is("count(0)", x.count(0), 0);
        Ops.registers(x, 0, 3, 0);
        x.start(0);
        turns(0, Ops.IDLE, Ops.IDLE);
        DUE.is("count(0)", x.count(0), 3);
        turns(0, Ops.STUCK, Ops.STUCK);
        DUE.is("count(0)", x.count(0), 4);
        DUE.is("run(60)", x.run(60), 0);
        // one that may go on makes it no more stuck
        Ops.started(x, 1, REST);
        turns(1, Ops.STUCK);
        x.broken(0);
        turns(0, Ops.OVER);
        DUE.is("count(0)", x.count(0), 6);
        // a WAIT for a TIME is not stuck, one without is
        x = new MonitorTurns();
        x.thing(Ops.PLAIN, 0);
        Ops.started(x, 0, Ops.op(Ops.ENTER, 0), Ops.op(Ops.WAIT, 0, 0), Ops.op(Ops.WAIT, 0, 1), REST);
        Ops.hands(x, 0, 0);
        Ops.registers(x, 0, 2);
        turns(0, 0, Ops.IDLE, 0, Ops.STUCK);
    }

    private static void run() {
        x = new MonitorTurns();
        for (int bad : new int[] {0, -1, 61, Ops.MOST, Ops.LEAST}) {
            DUE.is("run(" + bad + ")", x.run(bad), Ops.BAD);
        }
        DUE.is("run(1)", x.run(1), 0);
        Ops.started(x, 0, ROUND);
        DUE.is("run(1)", x.run(1), 1);
        DUE.is("run(60)", x.run(60), 60);
        DUE.is("count(0)", x.count(0), 61);
        DUE.is("count(15)", x.count(15), 61);
        // IDLE turns are turns, too
        x = new MonitorTurns();
        Ops.started(x, 0, Ops.op(Ops.SLEEP, 0), Ops.op(Ops.JOIN, 1));
        Ops.registers(x, 0, 10);
        DUE.is("run(5)", x.run(5), 5);
        DUE.is("run(60): till it is STUCK", x.run(60), 6);
        DUE.is("count(0)", x.count(0), 11);
        DUE.is("told(0, 0)", x.told(0, 0), Ops.T_JOINING);
        // till it is OVER
        x = new MonitorTurns();
        Ops.started(x, 0, REST, REST, REST);
        DUE.is("run(3)", x.run(3), 3);
        Ops.started(x, 0, REST, REST, REST);
        DUE.is("run(60)", x.run(60), 3);
    }

    /** Every second turn of one thread is a failure. */
    private static void failing() {
        x = new MonitorTurns();
        Ops.started(x, 0, Ops.op(Ops.TRY, 0, 128), Ops.op(Ops.RAISE, 0));
    }

    private static void full() {
        failing();
        for (int i = 0; i < 99; i++) {
            x.run(60);
        }
        x.run(59);
        DUE.is("count(12)", x.count(12), 2999);
        DUE.is("turn(): the 3000th", x.turn(), 0);
        DUE.is("count(12)", x.count(12), 3000);
        int time = x.count(0);
        DUE.is("turn()", x.turn(), Ops.FULL);
        DUE.is("run(1)", x.run(1), Ops.FULL);
        DUE.is("run(0): BAD first", x.run(0), Ops.BAD);
        DUE.is("run(61): BAD first", x.run(61), Ops.BAD);
        DUE.is("count(0)", x.count(0), time);
        fullAheadOfOver();
    }

    /** Thread 0 fails 2999 times and comes to its END; thread 1 ENDS by the 3000th failure. */
    private static void fullAheadOfOver() {
        x = new MonitorTurns();
        Ops.started(x, 0, Ops.op(Ops.TRY, 0, 128), Ops.op(Ops.GOZ, 3, 1), Ops.op(Ops.RAISE, 0));
        Ops.registers(x, 0, 0, 1);
        for (int i = 0; i < 149; i++) {
            x.run(60);
        }
        x.run(57);
        DUE.is("count(12)", x.count(12), 2999);
        x.set(0, 1, 0);
        DUE.is("run(60)", x.run(60), 2);
        DUE.is("turn()", x.turn(), Ops.OVER);
        Ops.started(x, 1, Ops.op(Ops.RAISE, 0));
        DUE.is("turn()", x.turn(), 1);
        DUE.is("count(14)", x.count(14), 0);
        DUE.is("turn()", x.turn(), Ops.FULL);
        DUE.is("run(5)", x.run(5), Ops.FULL);
    }

    /** run() looks once, ahead of all: failures may go on beyond 3000 in it. */
    private static void runBeyondFull() {
        failing();
        for (int i = 0; i < 99; i++) {
            x.run(60);
        }
        x.run(58);
        DUE.is("count(12)", x.count(12), 2999);
        DUE.is("run(60)", x.run(60), 60);
        DUE.is("count(12)", x.count(12), 3029);
        DUE.is("run(60)", x.run(60), Ops.FULL);
    }
}
