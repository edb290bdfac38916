/** Names for the document's numbers, and short ways to set up threads; a test may inherit them. */
abstract class Ops {
    static final int SET = 0, ADD = 1, LESS = 2, TIMES = 3, BY = 4, BELOW = 5, GO = 6, GOZ = 7, HOLD = 8, NEW = 9,
            SAME = 10, PASS = 11, COUNT = 12, BUMP = 13, WEIGH = 14, MARK = 15, SIZE = 16, READ = 17, WRITE = 18,
            TAKE = 19, PUT = 20, COPY = 21, ENTER = 22, LEAVE = 23, WAIT = 24, TELL = 25, TELLALL = 26, SLEEP = 27,
            JOIN = 28, START = 29, BREAK = 30, ASK = 31, RAISE = 32, TRY = 33, DONE = 34, CAUGHT = 35, REST = 36;

    static final int F_NULL = 1, F_INDEX = 2, F_CAST = 3, F_STORE = 4, F_SIZE = 5, F_ZERO = 6, F_OWN = 7,
            F_OWNER = 8, F_BROKEN = 9, F_STATE = 10, F_ROOM = 11;

    static final int T_NONE = 0, T_NEW = 1, T_READY = 2, T_BLOCKED = 3, T_WAITING = 4, T_SLEEPING = 5,
            T_JOINING = 6, T_ENDED = 7;

    static final int PLAIN = 0, BOX = 1, CRATE = 2, CHEST = 3, INTS = 4, BYTES = 5, THINGS = 6, BOXES = 7;

    static final int BAD = MonitorTurns.BAD, STATE = MonitorTurns.STATE, FULL = MonitorTurns.FULL,
            NONE = MonitorTurns.NONE, IDLE = MonitorTurns.IDLE, STUCK = MonitorTurns.STUCK,
            OVER = MonitorTurns.OVER;

    static final int LEAST = Integer.MIN_VALUE, MOST = Integer.MAX_VALUE;

    /** An act as a row: the op, then a, b, c (0 where they are left out). */
    static int[] op(int op, int... abc) {
        int[] row = new int[4];
        row[0] = op;
        System.arraycopy(abc, 0, row, 1, abc.length);
        return row;
    }

    /** Writes a program anew. */
    static void program(MonitorTurns x, int p, int[]... acts) {
        must(x.wipe(p) >= 0, "wipe");
        for (int i = 0; i < acts.length; i++) {
            int had = x.act(p, acts[i][0], acts[i][1], acts[i][2], acts[i][3]);
            must(had == i + 1, "act " + i);
        }
    }

    /** Thread t with program t of these acts, rank 0, made but not started. */
    static void made(MonitorTurns x, int t, int[]... acts) {
        program(x, t, acts);
        must(x.thread(t, t, 0) == 1, "thread");
    }

    /** As made(), and started. */
    static void started(MonitorTurns x, int t, int[]... acts) {
        made(x, t, acts);
        must(x.start(t) == 1, "start");
    }

    static void hands(MonitorTurns x, int t, int... things) {
        for (int h = 0; h < things.length; h++) {
            must(x.give(t, h, things[h]) == 1, "give");
        }
    }

    static void registers(MonitorTurns x, int t, int... values) {
        for (int r = 0; r < values.length; r++) {
            must(x.set(t, r, values[r]) == 1, "set");
        }
    }

    private static void must(boolean holds, String what) {
        if (!holds) {
            throw new IllegalStateException("a test's own set-up does not hold: " + what);
        }
    }
}
