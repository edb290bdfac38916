/** ENTER to BREAK (part 3 of the terms), as turn, run, of, told and ring (16, 17, 3, 18, 21) show them. */
public final class MonitorsTest {
    private static final Due DUE = new Due("MonitorsTest");
    private static final int[] ENTER = Ops.op(Ops.ENTER, 0);
    private static final int[] LEAVE = Ops.op(Ops.LEAVE, 0);
    private static final int[] WAIT = Ops.op(Ops.WAIT, 0, 0);
    private static final int[] TELL = Ops.op(Ops.TELL, 0);
    private static final int[] TELLALL = Ops.op(Ops.TELLALL, 0);
    private static final int[] REST = Ops.op(Ops.REST);
    private static final int[] SLEEP = Ops.op(Ops.SLEEP, 1);
    private static MonitorTurns x;

    public static void main(String[] args) {
        depth();
        nullAndOwner();
        blockedByOrder();
        waitingByOrder();
        tellAll();
        waitKeepsDepth();
        timedWait();
        longestStays();
        sleep();
        join();
        startAndBreak();
        brokenWaiting();
        brokenBlocked();
        endLeaves();
        endWhereItStopped();
        ring();
        DUE.close();
    }

    private static void fresh() {
        x = new MonitorTurns();
        x.thing(Ops.PLAIN, 0);
        x.thing(Ops.INTS, 2);
    }

    /** A started thread that has thing 0 in hand 0, thing 1 in hand 1, and these registers. */
    private static void go(int t, int[] registers, int[]... acts) {
        Ops.started(x, t, acts);
        Ops.hands(x, t, 0, 1);
        Ops.registers(x, t, registers);
    }

    private static int[] row(int... v) {
        return v;
    }

    private static void states(String when, int... want) {
        for (int t = 0; t < want.length; t++) {
            DUE.is("told(" + t + ", 0) " + when, x.told(t, 0), want[t]);
        }
    }

    private static void in(String when, int thing, int thread, int depth) {
        DUE.is("of(" + thing + ", 2) " + when, x.of(thing, 2), thread);
        DUE.is("of(" + thing + ", 3) " + when, x.of(thing, 3), depth);
    }

    private static void depth() {
        fresh();
        go(0, row(), ENTER, ENTER, ENTER, LEAVE, LEAVE, LEAVE, LEAVE);
        int[] depths = {1, 2, 3, 2, 1, 0};
        for (int i = 0; i < depths.length; i++) {
            x.turn();
            in("behind turn " + i, 0, depths[i] == 0 ? Ops.NONE : 0, depths[i]);
        }
        x.turn();
        DUE.is("a LEAVE too many", x.told(0, 2), Ops.F_OWNER);
        in("behind it", 0, Ops.NONE, 0);
    }

    private static void nullAndOwner() {
        int[] ops = {Ops.ENTER, Ops.LEAVE, Ops.WAIT, Ops.TELL, Ops.TELLALL};
        for (int op : ops) {
            fresh();
            go(0, row(), Ops.op(op, 2), REST);
            x.turn();
            DUE.is("op " + op + " on NOTHING", x.told(0, 2), Ops.F_NULL);
            go(0, row(), Ops.op(op, 0), REST);
            x.turn();
            DUE.is("op " + op + " on what nobody is in", x.told(0, 2), op == Ops.ENTER ? 0 : Ops.F_OWNER);
        }
        for (int op : ops) {
            if (op == Ops.ENTER) {
                continue;
            }
            fresh();
            go(1, row(), ENTER, Ops.op(Ops.GO, 1));
            x.turn();
            // OWNER is told ahead of BROKEN, and the FLAG stays
            go(0, row(), Ops.op(op, 0), REST);
            x.broken(0);
            DUE.is("turn()", x.turn(), 0);
            DUE.is("op " + op + " where another one is in", x.told(0, 2), Ops.F_OWNER);
            DUE.is("the FLAG", x.told(0, 4), 1);
            in("behind it", 0, 1, 1);
        }
        fresh();
        go(0, row(), Ops.op(Ops.ENTER, 1), REST);
        x.turn();
        in("a ROW is entered, too", 1, 0, 1);
    }

    /** Thread 5 is in; 3, 1, 4, 2 are blocked in this order; 5 leaves, then each leaves as it ends. */
    private static void blockedByOrder() {
        int[][] want = {{3, 1, 4, 2}, {2, 4, 1, 3}, {1, 2, 3, 4}};
        for (int order = 0; order < 3; order++) {
            fresh();
            go(5, row(), ENTER, REST, REST, REST, REST, LEAVE, REST);
            x.turn();
            x.rule(1);
            for (int t : row(3, 1, 4, 2)) {
                Ops.program(x, t, ENTER, LEAVE);
                x.thread(t, t, 5);
                Ops.hands(x, t, 0);
                x.start(t);
                DUE.is("turn()", x.turn(), t);
                DUE.is("told(" + t + ", 0)", x.told(t, 0), Ops.T_BLOCKED);
                DUE.is("told(" + t + ", 1)", x.told(t, 1), 1);
                DUE.is("told(" + t + ", 5)", x.told(t, 5), 0);
                DUE.is("told(" + t + ", 6)", x.told(t, 6), Ops.NONE);
            }
            DUE.is("of(0, 4)", x.of(0, 4), 4);
            DUE.is("order(" + order + ")", x.order(order), 0);
            DUE.is("run(5)", x.run(5), 5);
            for (int i = 0; i < 4; i++) {
                in("by order " + order + ", number " + i, 0, want[order][i], 1);
                DUE.is("of(0, 4)", x.of(0, 4), 3 - i);
                DUE.is("turn() by order " + order, x.turn(), want[order][i]);
                DUE.is("it ENDS", x.told(want[order][i], 0), Ops.T_ENDED);
            }
            in("in the end", 0, Ops.NONE, 0);
        }
    }

    /** Threads 2, 0, 1 wait, in this order; thread 4 tells one of them at a time. */
    private static void waitingByOrder() {
        int[][] want = {{2, 0, 1}, {1, 0, 2}, {0, 1, 2}};
        for (int order = 0; order < 3; order++) {
            fresh();
            for (int t : row(2, 0, 1)) {
                go(t, row(), ENTER, WAIT, REST);
                DUE.is("run(2)", x.run(2), 2);
                DUE.is("told(" + t + ", 0)", x.told(t, 0), Ops.T_WAITING);
                DUE.is("told(" + t + ", 5)", x.told(t, 5), 0);
                DUE.is("told(" + t + ", 6)", x.told(t, 6), Ops.NONE);
                DUE.is("told(" + t + ", 1)", x.told(t, 1), 2);
            }
            DUE.is("of(0, 5)", x.of(0, 5), 3);
            in("all wait", 0, Ops.NONE, 0);
            x.order(order);
            go(4, row(), ENTER, TELL, TELL, TELL, TELL, REST);
            x.turn();
            for (int i = 0; i < 3; i++) {
                DUE.is("turn()", x.turn(), 4);
                int t = want[order][i];
                DUE.is("told(" + t + ", 0) by order " + order, x.told(t, 0), Ops.T_BLOCKED);
                DUE.is("told(" + t + ", 5)", x.told(t, 5), 0);
                DUE.is("of(0, 5)", x.of(0, 5), 2 - i);
                DUE.is("of(0, 4)", x.of(0, 4), 1 + i);
            }
            x.turn();
            DUE.is("a TELL to nobody", x.told(4, 0), Ops.T_READY);
            // by order 0 who was told first is in first; by order 1 who was told last
            x.turn();
            in("behind the END of thread 4", 0, order == 1 ? want[1][2] : want[order][0], 1);
        }
    }

    private static void tellAll() {
        for (int order = 0; order < 3; order++) {
            fresh();
            for (int t : row(2, 0, 1)) {
                go(t, row(), ENTER, WAIT, LEAVE);
                x.run(2);
            }
            go(4, row(), ENTER, TELLALL, LEAVE);
            x.order(order);
            x.run(2);
            states("behind TELLALL", Ops.T_BLOCKED, Ops.T_BLOCKED, Ops.T_BLOCKED);
            DUE.is("of(0, 5)", x.of(0, 5), 0);
            x.turn();
            // they began to be BLOCKED by THREADS, not as they had come to wait
            in("by order " + order, 0, order == 1 ? 2 : 0, 1);
            DUE.is("run(60)", x.run(60), 3);
        }
        fresh();
        go(0, row(), ENTER, TELLALL, REST);
        x.run(2);
        states("TELLALL to nobody", Ops.T_READY);
        twoThings();
    }

    /** Who waits on one thing is not told by another. */
    private static void twoThings() {
        fresh();
        go(0, row(), ENTER, WAIT, REST);
        go(1, row(), Ops.op(Ops.ENTER, 1), Ops.op(Ops.WAIT, 1, 0), REST);
        x.run(4);
        go(2, row(), Ops.op(Ops.ENTER, 1), Ops.op(Ops.TELLALL, 1), Ops.op(Ops.TELL, 1), REST);
        x.run(3);
        states("of two things", Ops.T_WAITING, Ops.T_BLOCKED);
        DUE.is("told(1, 5)", x.told(1, 5), 1);
    }

    private static void waitKeepsDepth() {
        fresh();
        go(0, row(), ENTER, ENTER, ENTER, WAIT, LEAVE, REST);
        go(1, row(), REST, REST, ENTER, ENTER, TELL, LEAVE, LEAVE, REST);
        x.run(4);
        in("ahead of WAIT", 0, 0, 2);
        x.run(1);
        in("ahead of WAIT", 0, 0, 3);
        x.run(1);
        states("thread 1 came to ENTER", Ops.T_READY, Ops.T_BLOCKED);
        DUE.is("turn()", x.turn(), 0);
        states("behind WAIT", Ops.T_WAITING, Ops.T_READY);
        in("behind WAIT", 0, 1, 1);
        x.run(2);
        in("ahead of LEAVE", 0, 1, 2);
        states("behind TELL", Ops.T_BLOCKED, Ops.T_READY);
        x.run(1);
        in("behind one LEAVE", 0, 1, 1);
        states("behind one LEAVE", Ops.T_BLOCKED, Ops.T_READY);
        x.run(1);
        in("behind two", 0, 0, 3);
        states("behind two", Ops.T_READY, Ops.T_READY);
        x.turn();
        in("behind its own LEAVE", 0, 0, 2);
    }

    private static void timedWait() {
        fresh();
        go(0, row(3), ENTER, WAIT, REST, REST);
        x.run(2);
        states("it waits", Ops.T_WAITING);
        DUE.is("told(0, 6)", x.told(0, 6), 5);
        DUE.is("turn() at 3", x.turn(), Ops.IDLE);
        DUE.is("turn() at 4", x.turn(), Ops.IDLE);
        DUE.is("turn() at 5", x.turn(), 0);
        states("its time came", Ops.T_READY);
        in("its time came", 0, 0, 1);
        DUE.is("told(0, 6)", x.told(0, 6), Ops.NONE);
        DUE.is("told(0, 5)", x.told(0, 5), Ops.NONE);
        DUE.is("told(0, 1)", x.told(0, 1), 3);
        // its time comes while another one is in: it is BLOCKED, then in
        fresh();
        go(0, row(3), ENTER, WAIT, REST, REST);
        go(1, row(), ENTER, REST, REST, LEAVE, REST);
        DUE.is("run(5)", x.run(5), 5);
        DUE.is("told(0, 6)", x.told(0, 6), 6);
        states("till 6", Ops.T_WAITING, Ops.T_READY);
        x.turn();
        DUE.is("count(0)", x.count(0), 6);
        states("at 6", Ops.T_READY, Ops.T_READY);
        in("at 6", 0, 0, 1);
        timedWaitBlocked();
        // the least time: it comes in the next turn
        fresh();
        go(0, row(1), ENTER, WAIT, REST, REST);
        x.run(2);
        DUE.is("told(0, 6)", x.told(0, 6), 3);
        DUE.is("turn()", x.turn(), 0);
        DUE.is("told(0, 1)", x.told(0, 1), 3);
        // no time: it is not above 0
        fresh();
        go(0, row(-5), ENTER, WAIT, REST);
        DUE.is("run(60)", x.run(60), 2);
        DUE.is("turn()", x.turn(), Ops.STUCK);
        DUE.is("told(0, 6)", x.told(0, 6), Ops.NONE);
    }

    /** Those whose time comes at once begin to be BLOCKED by threads; who was told waits for no time. */
    private static void timedWaitBlocked() {
        for (int order = 0; order < 2; order++) {
            fresh();
            x.order(order);
            go(2, row(6), ENTER, WAIT, REST);
            x.run(2);
            go(1, row(4), ENTER, WAIT, REST);
            x.run(2);
            DUE.is("told(2, 6)", x.told(2, 6), 8);
            DUE.is("told(1, 6)", x.told(1, 6), 8);
            go(0, row(), ENTER, REST, REST, REST, LEAVE, REST);
            DUE.is("run(3)", x.run(3), 3);
            states("at 7", Ops.T_READY, Ops.T_WAITING, Ops.T_WAITING);
            x.turn();
            states("at 8", Ops.T_READY, Ops.T_BLOCKED, Ops.T_BLOCKED);
            DUE.is("told(1, 6)", x.told(1, 6), Ops.NONE);
            x.turn();
            in("by order " + order, 0, 1 + order, 1);
        }
        fresh();
        go(0, row(9), ENTER, WAIT, REST);
        go(1, row(), ENTER, TELL, Ops.op(Ops.GO, 2));
        x.run(4);
        states("told ahead of its time", Ops.T_BLOCKED, Ops.T_READY);
        DUE.is("told(0, 6)", x.told(0, 6), Ops.NONE);
        DUE.is("told(0, 5)", x.told(0, 5), 0);
    }

    private static void longestStays() {
        int[] stays = {1000000, 1000001, Ops.MOST};
        for (int stay : stays) {
            fresh();
            go(0, row(stay), ENTER, WAIT, REST);
            x.run(2);
            DUE.is("told(0, 6) of a WAIT of " + stay, x.told(0, 6), 1000002);
            go(1, row(stay), Ops.op(Ops.SLEEP, 0), REST);
            x.turn();
            DUE.is("told(1, 6) of a SLEEP of " + stay, x.told(1, 6), 1000003);
        }
        fresh();
        go(0, row(999999), Ops.op(Ops.SLEEP, 0), REST);
        x.turn();
        DUE.is("told(0, 6)", x.told(0, 6), 1000000);
        DUE.is("run(60), all IDLE", x.run(60), 60);
        DUE.is("count(0)", x.count(0), 61);
    }

    private static void sleep() {
        fresh();
        go(0, row(0, 1), SLEEP, REST, Ops.op(Ops.SLEEP, 0), REST);
        DUE.is("turn()", x.turn(), 0);
        states("it sleeps", Ops.T_SLEEPING);
        DUE.is("told(0, 6)", x.told(0, 6), 2);
        DUE.is("told(0, 5)", x.told(0, 5), Ops.NONE);
        DUE.is("told(0, 1)", x.told(0, 1), 1);
        // its time comes in the next turn, which it may have
        DUE.is("turn()", x.turn(), 0);
        DUE.is("told(0, 1)", x.told(0, 1), 2);
        DUE.is("told(0, 6)", x.told(0, 6), Ops.NONE);
        x.turn();
        states("a SLEEP of no time", Ops.T_READY);
        DUE.is("told(0, 1)", x.told(0, 1), 3);
        fresh();
        go(0, row(Ops.LEAST, -1), SLEEP, Ops.op(Ops.SLEEP, 0), REST);
        x.run(2);
        states("SLEEPS of less than no time", Ops.T_READY);
        // the FLAG breaks a SLEEP, whatever its time
        for (int stay : row(5, 0, -3)) {
            fresh();
            go(0, row(0, stay), SLEEP, REST);
            x.broken(0);
            x.turn();
            DUE.is("told(0, 2)", x.told(0, 2), Ops.F_BROKEN);
            DUE.is("told(0, 4)", x.told(0, 4), 0);
        }
        // a sleeper is in what it is in
        fresh();
        go(0, row(0, 9), ENTER, SLEEP, REST);
        x.run(2);
        in("asleep", 0, 0, 1);
    }

    private static void join() {
        int[] join = Ops.op(Ops.JOIN, 0);
        for (int none : row(-1, 6, Ops.MOST, Ops.LEAST)) {
            fresh();
            go(0, row(none), join, REST);
            x.broken(0);
            x.turn();
            DUE.is("JOIN of thread " + none, x.told(0, 2), Ops.F_INDEX);
            DUE.is("the FLAG", x.told(0, 4), 1);
        }
        fresh();
        Ops.made(x, 3, REST);
        go(4, row(), REST);
        x.turn();
        for (int t : row(2, 3, 4)) {
            // of one that is NONE, NEW, ENDED: nothing, not BROKEN either
            go(0, row(t), join, REST);
            x.broken(0);
            x.turn();
            states("JOIN of thread " + t, Ops.T_READY);
            DUE.is("the FLAG", x.told(0, 4), 1);
            x.run(60);
        }
        fresh();
        go(0, row(1), join, REST, REST);
        go(2, row(1), join, REST, REST);
        go(1, row(), Ops.op(Ops.TRY, 0, 0), REST, Ops.op(Ops.RAISE, 0));
        DUE.is("run(4)", x.run(4), 4);
        states("two join one", Ops.T_JOINING, Ops.T_READY, Ops.T_JOINING);
        DUE.is("told(0, 5)", x.told(0, 5), 1);
        DUE.is("told(0, 6)", x.told(0, 6), Ops.NONE);
        DUE.is("told(0, 1)", x.told(0, 1), 1);
        x.turn();
        states("it ENDED by a failure", Ops.T_READY, Ops.T_ENDED, Ops.T_READY);
        DUE.is("told(0, 5)", x.told(0, 5), Ops.NONE);
        DUE.is("turn()", x.turn(), 2);
        DUE.is("turn()", x.turn(), 0);
        fresh();
        go(0, row(1), join, REST);
        go(1, row(), REST);
        x.broken(0);
        x.turn();
        DUE.is("JOIN with the FLAG", x.told(0, 2), Ops.F_BROKEN);
        DUE.is("the FLAG", x.told(0, 4), 0);
    }

    private static void startAndBreak() {
        for (int op : row(Ops.START, Ops.BREAK)) {
            for (int none : row(-1, 6, Ops.MOST, Ops.LEAST)) {
                fresh();
                go(0, row(none), Ops.op(op, 0), REST);
                x.turn();
                DUE.is("op " + op + " of thread " + none, x.told(0, 2), Ops.F_INDEX);
            }
        }
        fresh();
        Ops.made(x, 1, REST, REST);
        go(0, row(1), Ops.op(Ops.START, 0), REST, REST);
        x.turn();
        states("START", Ops.T_READY, Ops.T_READY);
        DUE.is("turn()", x.turn(), 1);
        go(2, row(1), Ops.op(Ops.START, 0));
        x.turn();
        DUE.is("START of one UNDER WAY", x.told(2, 2), Ops.F_STATE);
        go(2, row(2), Ops.op(Ops.START, 0));
        x.run(60);
        DUE.is("START of itself", x.told(2, 2), Ops.F_STATE);
        go(2, row(1), Ops.op(Ops.START, 0));
        x.turn();
        DUE.is("START of one that ENDED", x.told(2, 2), Ops.F_STATE);
        go(2, row(5), Ops.op(Ops.START, 0));
        x.turn();
        DUE.is("START of one that is NONE", x.told(2, 2), Ops.F_STATE);
        // BREAK of one that is NONE, of itself, of a sleeper
        go(2, row(5, 2, 3), Ops.op(Ops.BREAK, 0), Ops.op(Ops.BREAK, 1), Ops.op(Ops.ASK, 4), Ops.op(Ops.ASK, 5),
                Ops.op(Ops.BREAK, 2));
        x.run(3);
        DUE.is("ASK", x.register(2, 4), 1);
        DUE.is("told(2, 4)", x.told(2, 4), 0);
        x.set(2, 5, 9);
        x.turn();
        DUE.is("ASK again", x.register(2, 5), 0);
        go(3, row(0, 50), SLEEP, REST);
        x.turn();
        DUE.is("turn()", x.turn(), 2);
        states("BREAK of a sleeper", Ops.T_ENDED, Ops.T_ENDED, Ops.T_ENDED, Ops.T_READY);
        DUE.is("told(3, 6)", x.told(3, 6), Ops.NONE);
        DUE.is("told(3, 4)", x.told(3, 4), 0);
        x.turn();
        DUE.is("told(3, 2)", x.told(3, 2), Ops.F_BROKEN);
        DUE.is("told(3, 8): the broken turn does no ACT", x.told(3, 8), 1);
        DUE.is("told(3, 1)", x.told(3, 1), 1);
    }

    private static void brokenWaiting() {
        fresh();
        go(0, row(), Ops.op(Ops.TRY, 4, 512), ENTER, ENTER, WAIT, Ops.op(Ops.CAUGHT, 2, 3), REST);
        x.run(4);
        states("it waits", Ops.T_WAITING);
        go(1, row(), ENTER, REST, LEAVE, REST);
        x.turn();
        DUE.is("broken(0)", x.broken(0), 1);
        states("broken while another one is in", Ops.T_BLOCKED);
        DUE.is("told(0, 4)", x.told(0, 4), 0);
        DUE.is("of(0, 5)", x.of(0, 5), 0);
        DUE.is("of(0, 4)", x.of(0, 4), 1);
        DUE.is("broken(0) once more", x.broken(0), 1);
        DUE.is("told(0, 4) once more", x.told(0, 4), 1);
        x.run(2);
        in("let in", 0, 0, 2);
        states("let in", Ops.T_READY);
        DUE.is("count(9)", x.count(9), 0);
        DUE.is("turn()", x.turn(), 0);
        DUE.is("count(9)", x.count(9), 1);
        DUE.is("told(0, 1): where the HANDLER is", x.told(0, 1), 4);
        DUE.is("told(0, 4): as it was", x.told(0, 4), 1);
        DUE.is("told(0, 7)", x.told(0, 7), 0);
        DUE.is("told(0, 8)", x.told(0, 8), 4);
        DUE.is("turn()", x.turn(), 1);
        DUE.is("turn()", x.turn(), 0);
        DUE.is("CAUGHT", x.register(0, 2), Ops.F_BROKEN);
        // nobody is in: it is in at once; a time is no more waited for
        fresh();
        go(0, row(30), ENTER, WAIT, REST);
        x.run(2);
        x.broken(0);
        states("broken while nobody is in", Ops.T_READY);
        in("broken while nobody is in", 0, 0, 1);
        DUE.is("told(0, 6)", x.told(0, 6), Ops.NONE);
        x.turn();
        DUE.is("told(0, 2)", x.told(0, 2), Ops.F_BROKEN);
        in("it ENDED", 0, Ops.NONE, 0);
        // WAIT with the FLAG
        fresh();
        go(0, row(), ENTER, WAIT, REST);
        x.broken(0);
        x.run(2);
        DUE.is("told(0, 2)", x.told(0, 2), Ops.F_BROKEN);
        DUE.is("told(0, 4)", x.told(0, 4), 0);
    }

    private static void brokenBlocked() {
        fresh();
        go(0, row(), ENTER, REST, LEAVE, REST);
        go(1, row(0, 7), ENTER, Ops.op(Ops.ASK, 0), SLEEP, REST);
        x.run(2);
        DUE.is("broken(1)", x.broken(1), 1);
        states("the FLAG lets nobody in", Ops.T_READY, Ops.T_BLOCKED);
        DUE.is("told(1, 4)", x.told(1, 4), 1);
        x.run(2);
        states("let in", Ops.T_READY, Ops.T_READY);
        DUE.is("turn()", x.turn(), 1);
        DUE.is("ASK", x.register(1, 0), 1);
        x.run(2);
        states("it sleeps in peace", Ops.T_ENDED, Ops.T_SLEEPING);
        // JOINING and broken, then again ahead of its turn: the FLAG is set and stays
        fresh();
        go(0, row(1), Ops.op(Ops.JOIN, 0), REST);
        go(1, row(), REST, REST, REST);
        x.turn();
        x.broken(0);
        states("broken while JOINING", Ops.T_READY);
        DUE.is("told(0, 5)", x.told(0, 5), Ops.NONE);
        DUE.is("told(0, 4)", x.told(0, 4), 0);
        x.broken(0);
        DUE.is("told(0, 4)", x.told(0, 4), 1);
        x.run(2);
        DUE.is("told(0, 2)", x.told(0, 2), Ops.F_BROKEN);
        DUE.is("told(0, 4)", x.told(0, 4), 1);
    }

    private static void endLeaves() {
        fresh();
        go(0, row(), ENTER, ENTER, Ops.op(Ops.ENTER, 1), Ops.op(Ops.BY, 0, 0));
        go(1, row(), ENTER, REST, REST);
        go(2, row(), Ops.op(Ops.ENTER, 1), REST, REST);
        go(3, row(0), Ops.op(Ops.JOIN, 0), REST);
        // 2 comes to its ENTER first and is in; 0 is blocked by it there
        DUE.is("run(7)", x.run(7), 7);
        states("all hang", Ops.T_BLOCKED, Ops.T_BLOCKED, Ops.T_READY, Ops.T_JOINING);
        in("thing 0", 0, 0, 2);
        DUE.is("turn()", x.turn(), 2);
        states("thread 2 ENDED", Ops.T_READY, Ops.T_BLOCKED, Ops.T_ENDED, Ops.T_JOINING);
        in("thing 1", 1, 0, 1);
        DUE.is("turn()", x.turn(), 0);
        DUE.is("told(0, 2)", x.told(0, 2), Ops.F_ZERO);
        states("thread 0 ENDED", Ops.T_ENDED, Ops.T_READY, Ops.T_ENDED, Ops.T_READY);
        in("thing 0", 0, 1, 1);
        in("thing 1", 1, Ops.NONE, 0);
    }

    private static void endWhereItStopped() {
        fresh();
        go(0, row(0, 2), SLEEP);
        x.turn();
        states("the last ACT is a SLEEP", Ops.T_SLEEPING);
        DUE.is("told(0, 1)", x.told(0, 1), 1);
        DUE.is("turn()", x.turn(), Ops.IDLE);
        DUE.is("turn(): the END", x.turn(), 0);
        states("it ENDS", Ops.T_ENDED);
        DUE.is("told(0, 8)", x.told(0, 8), 1);
        DUE.is("log(0, 1)", x.log(0, 1), 1);
        DUE.is("turn()", x.turn(), Ops.OVER);
        // no ACT at all
        go(1, row());
        DUE.is("turn()", x.turn(), 1);
        states("no ACT", Ops.T_ENDED, Ops.T_ENDED);
        DUE.is("told(1, 8)", x.told(1, 8), 0);
        // broken at the END it FAILS there
        fresh();
        go(0, row(0, 20), SLEEP);
        x.turn();
        x.broken(0);
        x.turn();
        DUE.is("told(0, 2)", x.told(0, 2), Ops.F_BROKEN);
        // the FLAG does nothing at the END
        fresh();
        go(0, row(0, 1), SLEEP, SLEEP);
        x.run(2);
        go(1, row(0, 1), Ops.op(Ops.TRY, 40, 4095), Ops.op(Ops.RAISE, 0), REST);
        DUE.is("run(60)", x.run(60), 3);
        states("a HANDLER at the END", Ops.T_ENDED, Ops.T_ENDED);
        DUE.is("told(1, 2)", x.told(1, 2), 0);
        DUE.is("told(1, 1)", x.told(1, 1), 3);
        // ENTER as the last ACT: let in at once it ENDS, let in later in its next turn
        fresh();
        go(0, row(), ENTER, REST, LEAVE, REST);
        go(1, row(), ENTER);
        DUE.is("run(4)", x.run(4), 4);
        states("let in", Ops.T_READY, Ops.T_READY);
        in("let in", 0, 1, 1);
        DUE.is("turn()", x.turn(), 1);
        states("and at its END", Ops.T_READY, Ops.T_ENDED);
        in("and at its END", 0, Ops.NONE, 0);
    }

    private static void ringIs(String when, int... want) {
        DUE.is("ring(-1) " + when, x.ring(-1), Ops.BAD);
        DUE.is("ring(LEAST) " + when, x.ring(Ops.LEAST), Ops.BAD);
        for (int k = 0; k < want.length; k++) {
            DUE.is("ring(" + k + ") " + when, x.ring(k), want[k]);
        }
        DUE.is("ring behind its last one " + when, x.ring(want.length), Ops.NONE);
        DUE.is("ring(MOST) " + when, x.ring(Ops.MOST), Ops.NONE);
    }

    private static void ring() {
        fresh();
        ringIs("at first");
        int[] join = Ops.op(Ops.JOIN, 0);
        // 0 hangs on 2, which is no part of a ring that comes back to 0: 2 -> 5 -> 3 -> 2
        go(0, row(2), join, REST);
        go(2, row(5), join, REST);
        go(5, row(3), join, REST);
        x.run(2);
        ringIs("as long as it is open");
        go(3, row(2), join, REST);
        x.run(60);
        ringIs("of three", 2, 5, 3);
        DUE.is("turn()", x.turn(), Ops.STUCK);
        go(1, row(1), join, REST);
        x.turn();
        ringIs("of one, which is less", 1);
        x.broken(1);
        ringIs("of three again", 2, 5, 3);
        x.broken(5);
        ringIs("none again");
        // all six
        fresh();
        for (int t = 0; t < 6; t++) {
            go(t, row((t + 5) % 6), join, REST);
        }
        x.run(6);
        ringIs("of six", 0, 5, 4, 3, 2, 1);
        // by a thing and a join: 4 is in the thing and joins 1, which is blocked by it
        fresh();
        go(4, row(1), ENTER, join, REST);
        go(1, row(), REST, ENTER, REST);
        x.run(4);
        ringIs("of a thing and a join", 1, 4);
        states("both hang", Ops.T_NONE, Ops.T_BLOCKED, Ops.T_NONE, Ops.T_NONE, Ops.T_JOINING);
        // who waits hangs on nobody
        fresh();
        go(0, row(), ENTER, WAIT, REST);
        go(1, row(0), join, REST);
        x.run(3);
        ringIs("of nobody");
    }
}
