/** Promises 7 to 13: act, wipe, thread, set, give, start, broken. */
public final class ProgramsTest {
    private static final Due DUE = new Due("ProgramsTest");
    /** What a, b, c of each op name: r, h up to 5, p up to 40, k up to 7, m up to 4095, - nothing. */
    private static final String[] NAMES = {
        "r--", "rr-", "rr-", "rr-", "rr-", "rrr", "p--", "pr-", "hr-", "hkr", "rhh", "hh-", "rh-", "hr-", "rh-",
        "rh-", "rh-", "rhr", "hrr", "hhr", "hrh", "hhr", "h--", "h--", "hr-", "h--", "h--", "r--", "r--", "r--",
        "r--", "r--", "r--", "pm-", "---", "rr-", "---"};

    public static void main(String[] args) {
        actNames();
        actAndWipe();
        actInUse();
        thread();
        set();
        give();
        start();
        broken();
        DUE.close();
    }

    private static int most(char name) {
        switch (name) {
            case 'p': return 40;
            case 'k': return 7;
            case 'm': return 4095;
            default: return 5;
        }
    }

    private static int actWith(int op, int column, int v) {
        int[] abc = {0, 0, 0};
        abc[column] = v;
        return new MonitorTurns().act(7, op, abc[0], abc[1], abc[2]);
    }

    private static void actNames() {
        for (int op = 0; op < NAMES.length; op++) {
            for (int column = 0; column < 3; column++) {
                char name = NAMES[op].charAt(column);
                String where = "op " + op + " column " + column;
                int beyond = name == '-' ? 1 : Ops.BAD;
                DUE.is(where + " -1", actWith(op, column, -1), beyond);
                DUE.is(where + " LEAST", actWith(op, column, Ops.LEAST), beyond);
                DUE.is(where + " 0", actWith(op, column, 0), 1);
                DUE.is(where + " the most", actWith(op, column, most(name)), 1);
                DUE.is(where + " one more", actWith(op, column, most(name) + 1), beyond);
                DUE.is(where + " MOST", actWith(op, column, Ops.MOST), beyond);
            }
        }
        MonitorTurns x = new MonitorTurns();
        DUE.is("act(-1, ..)", x.act(-1, 36, 0, 0, 0), Ops.BAD);
        DUE.is("act(8, ..)", x.act(8, 36, 0, 0, 0), Ops.BAD);
        DUE.is("act(0, -1, ..)", x.act(0, -1, 0, 0, 0), Ops.BAD);
        DUE.is("act(0, 37, ..)", x.act(0, 37, 0, 0, 0), Ops.BAD);
        DUE.is("act(0, MOST, ..)", x.act(0, Ops.MOST, 0, 0, 0), Ops.BAD);
        DUE.is("act(0, LEAST, ..)", x.act(0, Ops.LEAST, 0, 0, 0), Ops.BAD);
        DUE.is("wipe(0): nothing changed", x.wipe(0), 0);
    }

    private static void actAndWipe() {
        MonitorTurns x = new MonitorTurns();
        for (int i = 1; i <= 40; i++) {
            DUE.is("act number " + i, x.act(3, Ops.REST, 0, 0, 0), i);
        }
        DUE.is("act number 41", x.act(3, Ops.REST, 0, 0, 0), Ops.FULL);
        DUE.is("act number 41, BAD first", x.act(3, Ops.ADD, 6, 0, 0), Ops.BAD);
        DUE.is("act of another program", x.act(4, Ops.REST, 0, 0, 0), 1);
        DUE.is("wipe(-1)", x.wipe(-1), Ops.BAD);
        DUE.is("wipe(8)", x.wipe(8), Ops.BAD);
        DUE.is("wipe(3)", x.wipe(3), 40);
        DUE.is("wipe(3) again", x.wipe(3), 0);
        DUE.is("act behind it", x.act(3, Ops.SET, 1, 77, 0), 1);
        x.thread(0, 3, 0);
        x.start(0);
        DUE.is("run(60): one act", x.run(60), 1);
        DUE.is("register(0, 1)", x.register(0, 1), 77);
        DUE.is("wipe(4)", x.wipe(4), 1);
    }

    private static void actInUse() {
        MonitorTurns x = new MonitorTurns();
        x.thing(Ops.PLAIN, 0);
        Ops.made(x, 0, Ops.op(Ops.SLEEP, 0), Ops.op(Ops.JOIN, 1), Ops.op(Ops.ENTER, 0), Ops.op(Ops.WAIT, 0, 2));
        Ops.registers(x, 0, 1, 0, 0);
        Ops.hands(x, 0, 0);
        DUE.is("act, the thread is NEW", x.act(0, Ops.REST, 0, 0, 0), 5);
        x.start(0);
        inUse(x, Ops.T_READY);
        x.turn();
        inUse(x, Ops.T_SLEEPING);
        x.turn();
        inUse(x, Ops.T_JOINING);
        DUE.is("another program is free", x.act(1, Ops.REST, 0, 0, 0), 1);
        x.broken(0);
        x.turn();
        DUE.is("told(0, 0)", x.told(0, 0), Ops.T_ENDED);
        DUE.is("act, the thread ENDED", x.act(0, Ops.REST, 0, 0, 0), 6);
        DUE.is("wipe, the thread ENDED", x.wipe(0), 6);
        waitingAndBlocked(x);
    }

    private static void waitingAndBlocked(MonitorTurns x) {
        Ops.started(x, 0, Ops.op(Ops.ENTER, 0), Ops.op(Ops.WAIT, 0, 2));
        Ops.hands(x, 0, 0);
        x.run(2);
        inUse(x, Ops.T_WAITING);
        Ops.started(x, 1, Ops.op(Ops.ENTER, 0), Ops.op(Ops.TELL, 0), Ops.op(Ops.SLEEP, 0));
        Ops.hands(x, 1, 0);
        Ops.registers(x, 1, 50);
        x.run(3);
        inUse(x, Ops.T_BLOCKED);
    }

    private static void inUse(MonitorTurns x, int state) {
        DUE.is("told(0, 0)", x.told(0, 0), state);
        DUE.is("act in state " + state, x.act(0, Ops.REST, 0, 0, 0), Ops.STATE);
        DUE.is("act in state " + state + ", BAD first", x.act(0, 37, 0, 0, 0), Ops.BAD);
        DUE.is("wipe in state " + state, x.wipe(0), Ops.STATE);
        DUE.is("thread in state " + state, x.thread(0, 0, 0), Ops.STATE);
        DUE.is("thread in state " + state + ", BAD first", x.thread(0, 0, 10), Ops.BAD);
        DUE.is("start in state " + state, x.start(0), Ops.STATE);
        DUE.is("told(0, 0) behind them", x.told(0, 0), state);
    }

    private static void thread() {
        MonitorTurns x = new MonitorTurns();
        int[][] bad = {{-1, 0, 0}, {6, 0, 0}, {0, -1, 0}, {0, 8, 0}, {0, 0, -1}, {0, 0, 10}, {Ops.MOST, 0, 0}};
        for (int[] b : bad) {
            DUE.is("thread(" + b[0] + ", " + b[1] + ", " + b[2] + ")", x.thread(b[0], b[1], b[2]), Ops.BAD);
        }
        DUE.is("told(0, 0)", x.told(0, 0), Ops.T_NONE);
        DUE.is("thread(5, 7, 9)", x.thread(5, 7, 9), 1);
        DUE.is("told(5, 0)", x.told(5, 0), Ops.T_NEW);
        DUE.is("thread(5, 7, 9), it is NEW", x.thread(5, 7, 9), 1);
        x.thing(Ops.PLAIN, 0);
        // it meets a failure, then ends by one, with a handler and the flag left
        Ops.program(x, 7, Ops.op(Ops.TRY, 2, 128), Ops.op(Ops.RAISE, 0), Ops.op(Ops.TRY, 0, 0),
                Ops.op(Ops.BREAK, 1), Ops.op(Ops.RAISE, 0));
        x.thread(5, 7, 9);
        Ops.registers(x, 5, 41, 5);
        Ops.hands(x, 5, 0);
        x.start(5);
        DUE.is("run(60)", x.run(60), 5);
        int[] ended = {Ops.T_ENDED, 4, Ops.F_OWN, 41, 1, Ops.NONE, Ops.NONE, 1, 5};
        int[] anew = {Ops.T_NEW, 0, 0, 0, 0, Ops.NONE, Ops.NONE, 0, 0};
        toldIs(x, 5, ended);
        DUE.is("thread(5, 6, 0), it ENDED", x.thread(5, 6, 0), 1);
        toldIs(x, 5, anew);
        for (int i = 0; i < 6; i++) {
            DUE.is("register(5, " + i + ")", x.register(5, i), 0);
            DUE.is("hand(5, " + i + ")", x.hand(5, i), Ops.NONE);
        }
        Ops.program(x, 6, Ops.op(Ops.CAUGHT, 0, 1));
        Ops.registers(x, 5, 8, 8);
        x.start(5);
        x.turn();
        DUE.is("no failure was met", x.register(5, 0), 0);
        DUE.is("nor its number", x.register(5, 1), 0);
        DUE.is("count(15) goes on", x.count(15), 6);
    }

    private static void toldIs(MonitorTurns x, int t, int... want) {
        for (int what = 0; what < want.length; what++) {
            DUE.is("told(" + t + ", " + what + ")", x.told(t, what), want[what]);
        }
    }

    private static void set() {
        MonitorTurns x = new MonitorTurns();
        DUE.is("set of one that is NONE", x.set(0, 0, 1), Ops.BAD);
        x.thread(0, 0, 0);
        x.thread(1, 0, 0);
        for (int r = 0; r < 6; r++) {
            DUE.is("set(0, " + r + ")", x.set(0, r, Ops.LEAST + r), 1);
        }
        for (int r = 0; r < 6; r++) {
            DUE.is("register(0, " + r + ")", x.register(0, r), Ops.LEAST + r);
            DUE.is("register(1, " + r + ")", x.register(1, r), 0);
        }
        DUE.is("set(0, 6, 1)", x.set(0, 6, 1), Ops.BAD);
        DUE.is("set(0, -1, 1)", x.set(0, -1, 1), Ops.BAD);
        DUE.is("set(-1, 0, 1)", x.set(-1, 0, 1), Ops.BAD);
        DUE.is("set(6, 0, 1)", x.set(6, 0, 1), Ops.BAD);
        x.start(0);
        DUE.is("set, UNDER WAY", x.set(0, 0, 3), 1);
        x.turn();
        DUE.is("told(0, 0)", x.told(0, 0), Ops.T_ENDED);
        DUE.is("set, ENDED", x.set(0, 0, 4), 1);
        DUE.is("register(0, 0)", x.register(0, 0), 4);
    }

    private static void give() {
        MonitorTurns x = new MonitorTurns();
        x.thing(Ops.PLAIN, 0);
        DUE.is("give of one that is NONE", x.give(0, 0, 0), Ops.BAD);
        x.thread(0, 0, 0);
        for (int h = 0; h < 6; h++) {
            DUE.is("give(0, " + h + ", 0)", x.give(0, h, 0), 1);
            DUE.is("hand(0, " + h + ")", x.hand(0, h), 0);
        }
        DUE.is("give(0, 6, 0)", x.give(0, 6, 0), Ops.BAD);
        DUE.is("give(0, -1, 0)", x.give(0, -1, 0), Ops.BAD);
        DUE.is("give(-1, 0, 0)", x.give(-1, 0, 0), Ops.BAD);
        DUE.is("give(6, 0, 0)", x.give(6, 0, 0), Ops.BAD);
        DUE.is("give(0, 0, 1)", x.give(0, 0, 1), Ops.BAD);
        DUE.is("give(0, 0, -1)", x.give(0, 0, -1), Ops.BAD);
        DUE.is("give(0, 0, MOST)", x.give(0, 0, Ops.MOST), Ops.BAD);
        DUE.is("hand(0, 0): nothing changed", x.hand(0, 0), 0);
        DUE.is("give(0, 0, NONE)", x.give(0, 0, Ops.NONE), 1);
        DUE.is("hand(0, 0)", x.hand(0, 0), Ops.NONE);
        DUE.is("give(1, 0, NONE) of one that is NONE", x.give(1, 0, Ops.NONE), Ops.BAD);
    }

    private static void start() {
        MonitorTurns x = new MonitorTurns();
        DUE.is("start(-1)", x.start(-1), Ops.BAD);
        DUE.is("start(6)", x.start(6), Ops.BAD);
        DUE.is("start of one that is NONE", x.start(0), Ops.STATE);
        x.thread(0, 0, 0);
        DUE.is("start(0)", x.start(0), 1);
        DUE.is("told(0, 0)", x.told(0, 0), Ops.T_READY);
        DUE.is("start(0) again", x.start(0), Ops.STATE);
        x.turn();
        DUE.is("start of one that ENDED", x.start(0), Ops.STATE);
        x.thread(0, 0, 0);
        DUE.is("start of one made anew", x.start(0), 1);
    }

    private static void broken() {
        MonitorTurns x = new MonitorTurns();
        DUE.is("broken(-1)", x.broken(-1), Ops.BAD);
        DUE.is("broken(6)", x.broken(6), Ops.BAD);
        DUE.is("broken of one that is NONE", x.broken(0), 0);
        Ops.made(x, 0, Ops.op(Ops.REST), Ops.op(Ops.SLEEP, 1), Ops.op(Ops.REST));
        DUE.is("broken of one that is NEW", x.broken(0), 0);
        DUE.is("told(0, 4)", x.told(0, 4), 0);
        x.start(0);
        DUE.is("broken of one that is READY", x.broken(0), 1);
        DUE.is("told(0, 4)", x.told(0, 4), 1);
        x.turn();
        DUE.is("the flag breaks no REST", x.told(0, 0), Ops.T_READY);
        x.turn();
        DUE.is("but a SLEEP, though of no time", x.told(0, 2), Ops.F_BROKEN);
        DUE.is("told(0, 1)", x.told(0, 1), 1);
        DUE.is("told(0, 4)", x.told(0, 4), 0);
        DUE.is("broken of one that ENDED", x.broken(0), 0);
        DUE.is("told(0, 4)", x.told(0, 4), 0);
    }
}
