/** Promises 18 to 23: told, register, hand, ring, log, count (ring at length in MonitorsTest). */
public final class ToldTest {
    private static final Due DUE = new Due("ToldTest");
    private static final int[] REST = Ops.op(Ops.REST);
    private static MonitorTurns x;

    public static void main(String[] args) {
        wrongInputs();
        toldThroughALife();
        registersAndHands();
        ring();
        log();
        logOfSixty();
        count();
        DUE.close();
    }

    private static void wrongInputs() {
        x = new MonitorTurns();
        Ops.made(x, 0, REST);
        for (int t : new int[] {-1, 6, Ops.MOST, Ops.LEAST}) {
            DUE.is("told(" + t + ", 0)", x.told(t, 0), Ops.BAD);
            DUE.is("register(" + t + ", 0)", x.register(t, 0), Ops.BAD);
            DUE.is("hand(" + t + ", 0)", x.hand(t, 0), Ops.BAD);
            DUE.is("register(0, " + t + ")", x.register(0, t), Ops.BAD);
            DUE.is("hand(0, " + t + ")", x.hand(0, t), Ops.BAD);
        }
        for (int what : new int[] {-1, 9, Ops.MOST, Ops.LEAST}) {
            DUE.is("told(0, " + what + ")", x.told(0, what), Ops.BAD);
            DUE.is("told(5, " + what + ")", x.told(5, what), Ops.BAD);
        }
        for (int what : new int[] {-1, 17, Ops.MOST, Ops.LEAST}) {
            DUE.is("count(" + what + ")", x.count(what), Ops.BAD);
        }
        for (int what : new int[] {-1, 3, Ops.MOST, Ops.LEAST}) {
            DUE.is("log(0, " + what + ")", x.log(0, what), Ops.BAD);
            DUE.is("log(70, " + what + ")", x.log(70, what), Ops.BAD);
        }
        for (int k : new int[] {-1, Ops.LEAST}) {
            DUE.is("log(" + k + ", 0)", x.log(k, 0), Ops.BAD);
            DUE.is("ring(" + k + ")", x.ring(k), Ops.BAD);
        }
        DUE.is("log(MOST, 0)", x.log(Ops.MOST, 0), Ops.NONE);
        DUE.is("ring(MOST)", x.ring(Ops.MOST), Ops.NONE);
    }

    private static void told(String when, int... want) {
        for (int what = 0; what < want.length; what++) {
            DUE.is("told(0, " + what + ") " + when, x.told(0, what), want[what]);
        }
    }

    private static void toldThroughALife() {
        x = new MonitorTurns();
        x.thing(Ops.PLAIN, 0);
        x.thing(Ops.PLAIN, 0);
        int no = Ops.NONE;
        told("NONE", 0, 0, 0, 0, 0, no, no, 0, 0);
        Ops.made(x, 0, Ops.op(Ops.TRY, 3, 512), Ops.op(Ops.SLEEP, 1), REST, Ops.op(Ops.ENTER, 1),
                Ops.op(Ops.WAIT, 1, 1), Ops.op(Ops.JOIN, 2), Ops.op(Ops.ENTER, 0), Ops.op(Ops.RAISE, 1));
        Ops.hands(x, 0, 0, 1);
        Ops.registers(x, 0, 0, 4, 2);
        told("NEW", 1, 0, 0, 0, 0, no, no, 0, 0);
        x.start(0);
        told("READY", 2, 0, 0, 0, 0, no, no, 0, 0);
        x.turn();
        told("with a HANDLER", 2, 1, 0, 0, 0, no, no, 1, 1);
        x.turn();
        told("SLEEPING", 5, 2, 0, 0, 0, no, 6, 1, 2);
        x.broken(0);
        told("BROKEN", 2, 2, 0, 0, 0, no, no, 1, 2);
        x.turn();
        told("met", 2, 3, 0, 0, 0, no, no, 0, 2);
        x.turn();
        x.turn();
        told("WAITING", 4, 5, 0, 0, 0, 1, 9, 0, 4);
        DUE.is("run(4)", x.run(4), 4);
        told("its time came", 2, 6, 0, 0, 0, no, no, 0, 5);
        Ops.started(x, 2, Ops.op(Ops.ENTER, 0), REST, REST, Ops.op(Ops.LEAVE, 0), REST);
        Ops.hands(x, 2, 0);
        x.turn();
        x.turn();
        told("BLOCKED", 3, 7, 0, 0, 0, 0, no, 0, 6);
        x.broken(0);
        told("BLOCKED with the FLAG", 3, 7, 0, 0, 1, 0, no, 0, 6);
        x.run(3);
        told("let in", 2, 7, 0, 0, 1, no, no, 0, 6);
        x.turn();
        told("ENDED", 7, 7, 7, 4, 1, no, no, 0, 7);
        x.wipe(0);
        told("ENDED, its program is gone", 7, 7, 7, 4, 1, no, no, 0, 7);
        joining();
    }

    private static void joining() {
        x = new MonitorTurns();
        Ops.started(x, 0, Ops.op(Ops.JOIN, 0), REST);
        Ops.registers(x, 0, 5);
        Ops.started(x, 5, REST, REST);
        x.turn();
        told("JOINING", 6, 1, 0, 0, 0, 5, Ops.NONE, 0, 1);
        x.run(2);
        told("READY again", 2, 1, 0, 0, 0, Ops.NONE, Ops.NONE, 0, 1);
        x.turn();
        told("at its END", 7, 2, 0, 0, 0, Ops.NONE, Ops.NONE, 0, 2);
        // acts added later do not move one that ENDED
        x.act(0, Ops.REST, 0, 0, 0);
        told("at its END still", 7, 2, 0, 0, 0, Ops.NONE, Ops.NONE, 0, 2);
    }

    private static void registersAndHands() {
        x = new MonitorTurns();
        x.thing(Ops.PLAIN, 0);
        x.thing(Ops.BOX, 0);
        for (int t = 0; t < 6; t++) {
            for (int i = 0; i < 6; i++) {
                DUE.is("register of one that is NONE", x.register(t, i), 0);
                DUE.is("hand of one that is NONE", x.hand(t, i), Ops.NONE);
            }
            x.thread(t, t, 0);
        }
        for (int t = 0; t < 6; t++) {
            for (int i = 0; i < 6; i++) {
                x.set(t, i, 10 * t + i - 20);
                x.give(t, i, (t + i) % 3 == 2 ? Ops.NONE : (t + i) % 3);
            }
        }
        for (int t = 0; t < 6; t++) {
            for (int i = 0; i < 6; i++) {
                DUE.is("register(" + t + ", " + i + ")", x.register(t, i), 10 * t + i - 20);
                DUE.is("hand(" + t + ", " + i + ")", x.hand(t, i), (t + i) % 3 == 2 ? Ops.NONE : (t + i) % 3);
            }
        }
    }

    private static void ring() {
        x = new MonitorTurns();
        DUE.is("ring(0)", x.ring(0), Ops.NONE);
        Ops.started(x, 4, Ops.op(Ops.JOIN, 0));
        Ops.registers(x, 4, 3);
        Ops.started(x, 3, Ops.op(Ops.JOIN, 0));
        Ops.registers(x, 3, 4);
        x.turn();
        DUE.is("ring(0)", x.ring(0), Ops.NONE);
        x.turn();
        DUE.is("ring(0)", x.ring(0), 3);
        DUE.is("ring(1)", x.ring(1), 4);
        DUE.is("ring(2)", x.ring(2), Ops.NONE);
    }

    private static void logIs(int k, int thread, int place, int failure) {
        DUE.is("log(" + k + ", 0)", x.log(k, 0), thread);
        DUE.is("log(" + k + ", 1)", x.log(k, 1), place);
        DUE.is("log(" + k + ", 2)", x.log(k, 2), failure);
    }

    private static void log() {
        x = new MonitorTurns();
        Ops.started(x, 2, Ops.op(Ops.TRY, 3, 64), Ops.op(Ops.BY, 0, 0), REST, Ops.op(Ops.SLEEP, 1));
        Ops.registers(x, 2, 1, 3);
        x.set(2, 0, 0);
        DUE.is("run(3)", x.run(3), 3);
        logIs(0, 2, 3, 0);
        logIs(1, 2, 1, Ops.F_ZERO);
        logIs(2, 2, 0, 0);
        logIs(3, Ops.NONE, Ops.NONE, Ops.NONE);
        // IDLE turns are not told
        DUE.is("turn()", x.turn(), Ops.IDLE);
        logIs(0, 2, 3, 0);
        Ops.started(x, 4, Ops.op(Ops.GO, 0));
        DUE.is("turn()", x.turn(), 4);
        logIs(0, 4, 0, 0);
        DUE.is("turn()", x.turn(), 2);
        logIs(0, 2, 4, 0);
        logIs(1, 4, 0, 0);
        logIs(2, 2, 3, 0);
        // a turn that FAILS as BROKEN
        Ops.started(x, 5, Ops.op(Ops.SLEEP, 0), REST);
        Ops.registers(x, 5, 40);
        x.run(2);
        x.broken(5);
        x.run(2);
        DUE.is("told(5, 2)", x.told(5, 2), Ops.F_BROKEN);
        int k = x.log(0, 0) == 5 ? 0 : 1;
        logIs(k, 5, 1, Ops.F_BROKEN);
    }

    private static void logOfSixty() {
        x = new MonitorTurns();
        int[][] acts = new int[40][];
        for (int i = 0; i < 39; i++) {
            acts[i] = REST;
        }
        acts[39] = Ops.op(Ops.GO, 0);
        Ops.started(x, 1, acts);
        x.run(59);
        logIs(58, 1, 0, 0);
        logIs(59, Ops.NONE, Ops.NONE, Ops.NONE);
        x.run(1);
        logIs(59, 1, 0, 0);
        logIs(60, Ops.NONE, Ops.NONE, Ops.NONE);
        x.run(27);
        for (int k = 0; k < 60; k++) {
            logIs(k, 1, (86 - k) % 40, 0);
        }
        logIs(60, Ops.NONE, Ops.NONE, Ops.NONE);
    }

    private static void counts(String when, int... want) {
        for (int i = 0; i < want.length; i += 2) {
            DUE.is("count(" + want[i] + ") " + when, x.count(want[i]), want[i + 1]);
        }
    }

    private static void count() {
        x = new MonitorTurns();
        x.thing(Ops.PLAIN, 0);
        Ops.started(x, 0, Ops.op(Ops.TRY, 2, 4095), Ops.op(Ops.LEAVE, 0), Ops.op(Ops.NEW, 1, Ops.BOX, 0),
                Ops.op(Ops.SLEEP, 1), REST);
        Ops.hands(x, 0, 0);
        Ops.registers(x, 0, 0, 2);
        Ops.made(x, 1, REST);
        counts("at first", 0, 0, 12, 0, 13, 1, 14, 1, 15, 0, 16, 0);
        x.start(1);
        counts("two", 14, 2);
        x.run(3);
        counts("behind 3 turns", 0, 3, 8, 1, 12, 1, 13, 1, 14, 1, 15, 3, 16, 1);
        x.run(2);
        counts("behind 5 turns", 0, 5, 12, 1, 13, 2, 14, 1, 15, 5, 16, 1);
        x.turn();
        counts("behind an IDLE one", 0, 6, 15, 5);
        x.run(60);
        counts("in the end", 0, 7, 12, 1, 14, 0, 15, 6, 16, 1);
        // what a call refuses is no failure
        x.thing(9, 9);
        x.start(0);
        x.give(0, 0, 9);
        counts("in the end", 2, 0, 10, 0, 12, 1);
        x.thread(0, 1, 0);
        x.start(0);
        x.turn();
        counts("a thread made anew", 15, 7, 0, 8);
    }
}
