import java.util.Arrays;

/** Objects as tests begin with them, and all that an object tells; a test may inherit them. */
abstract class Scenes extends Ops {
    /** In shelf(): a second BOX, behind one THING of each KIND. */
    static final int SECOND_BOX = 8;
    static final int SHELF = 9;

    static int[] row(int... v) {
        return v;
    }

    /** An object with a THING of each KIND, its number being the KIND's; ROWS have 3 PLACES. */
    static MonitorTurns shelf() {
        MonitorTurns x = new MonitorTurns();
        for (int kind = PLAIN; kind <= BOXES; kind++) {
            x.thing(kind, 3);
        }
        x.thing(BOX, 0);
        return x;
    }

    /** Thread t, whose program is t, with these hands and registers, started. */
    static void go(MonitorTurns x, int t, int[] hands, int[] registers, int[]... acts) {
        started(x, t, acts);
        hands(x, t, hands);
        registers(x, t, registers);
    }

    /** Thread 0 is given these acts and as many turns; a REST behind them keeps it from its END. */
    static MonitorTurns did(MonitorTurns x, int[] hands, int[] registers, int[]... acts) {
        int[][] all = Arrays.copyOf(acts, acts.length + 1);
        all[acts.length] = op(REST);
        go(x, 0, hands, registers, all);
        x.run(acts.length);
        return x;
    }

    /**
     * An object in which thread 0, whose program 0 has acts that no other thread has, is in this state. Thing 0
     * is PLAIN, thing 1 a BOX, both are in the hands of thread 0; when it is BLOCKED, thread 1 goes round, in thing 0.
     */
    static MonitorTurns inState(int state) {
        MonitorTurns x = new MonitorTurns();
        x.thing(PLAIN, 0);
        x.thing(BOX, 0);
        if (state == T_NONE) {
            return x;
        }
        if (state == T_BLOCKED) {
            go(x, 1, row(0), row(), op(ENTER, 0), op(GO, 1));
            x.turn();
        }
        made(x, 0, wayInto(state));
        hands(x, 0, 0, 1);
        if (state == T_SLEEPING) {
            x.set(0, 0, 50);
        }
        if (state != T_NEW) {
            x.start(0);
        }
        if (state > T_READY) {
            x.run(state == T_WAITING ? 2 : 1);
        }
        return x;
    }

    private static int[][] wayInto(int state) {
        switch (state) {
            case T_BLOCKED:
                return new int[][] {op(ENTER, 0), op(REST), op(REST)};
            case T_WAITING:
                return new int[][] {op(ENTER, 0), op(WAIT, 0, 0), op(REST), op(REST)};
            case T_SLEEPING:
                return new int[][] {op(SLEEP, 0), op(REST), op(REST)};
            case T_JOINING:
                return new int[][] {op(JOIN, 0), op(REST), op(REST)};
            case T_ENDED:
                return new int[][] {op(REST)};
            default:
                return new int[][] {op(REST), op(REST), op(REST)};
        }
    }

    static boolean isUnderWay(int state) {
        return state >= T_READY && state <= T_JOINING;
    }

    /** What is told of all things: what they are, who is in them, what stands in rows. */
    static int[] allThings(MonitorTurns x) {
        Answers all = new Answers();
        int things = x.count(13);
        for (int i = 0; i < things; i++) {
            int kind = x.of(i, 0);
            int size = x.of(i, 1);
            all.add(kind, size, x.of(i, 2), x.of(i, 3), x.of(i, 4), x.of(i, 5));
            for (int k = 0; kind >= INTS && k < size; k++) {
                all.add(x.item(i, k));
            }
        }
        return all.row();
    }

    /** All that is told, then what a few turns bring; for objects with few things, as it takes some 300 calls. */
    static int[] everything(MonitorTurns x) {
        Answers all = new Answers();
        all.add(allThings(x));
        for (int i = 0; i < 6; i++) {
            all.add(x.trace(i), x.ring(i));
            for (int slot = 0; slot < 6; slot++) {
                all.add(x.register(i, slot), x.hand(i, slot));
            }
            for (int what = 0; what < 3; what++) {
                all.add(x.log(i, what));
            }
        }
        all.add(threadsAndCounts(x));
        all.add(x.run(7));
        all.add(threadsAndCounts(x));
        for (int p = 0; p < 8; p++) {
            all.add(x.wipe(p));
        }
        all.add(x.rule(0), x.order(0));
        return all.row();
    }

    private static int[] threadsAndCounts(MonitorTurns x) {
        Answers all = new Answers();
        for (int t = 0; t < 6; t++) {
            for (int what = 0; what < 9; what++) {
                all.add(x.told(t, what));
            }
        }
        for (int what = 0; what < 17; what++) {
            all.add(x.count(what));
        }
        return all.row();
    }

    /** A row of answers that grows. */
    private static final class Answers {
        private int[] answers = new int[0];

        void add(int... more) {
            int had = answers.length;
            answers = Arrays.copyOf(answers, had + more.length);
            System.arraycopy(more, 0, answers, had, more.length);
        }

        int[] row() {
            return answers;
        }
    }
}
