/** The acts 0 to 21 and 36, as turn (promise 16) does them, each alone in a thread. */
public final class ActsTest {
    private static final Due DUE = new Due("ActsTest");
    /** One THING of each KIND, ROWS of 3; thing 8 is a second BOX. Made anew well within 512 calls. */
    private static MonitorTurns x;

    public static void main(String[] args) {
        numbers();
        jumps();
        holdAndNew();
        newRoom();
        samePass();
        boxes();
        readWrite();
        takePut();
        copies();
        copyFits();
        copyOntoItself();
        DUE.close();
    }

    private static void fresh() {
        x = new MonitorTurns();
        for (int kind = 0; kind < 8; kind++) {
            x.thing(kind, 3);
        }
        x.thing(Ops.BOX, 0);
    }

    /** Does one act in thread 0, which keeps its hands and registers; a REST behind it keeps it under way. */
    private static void does(int[] hands, int[] registers, int... act) {
        Ops.started(x, 0, Ops.op(act[0], act[1], act.length > 2 ? act[2] : 0, act.length > 3 ? act[3] : 0),
                Ops.op(Ops.REST));
        Ops.hands(x, 0, hands);
        Ops.registers(x, 0, registers);
        DUE.is("turn()", x.turn(), 0);
    }

    /** The act fails by this KIND, and nothing is there to meet it. */
    private static void fails(int kind, int[] hands, int[] registers, int... act) {
        int were = x.count(kind);
        does(hands, registers, act);
        DUE.is("failure of op " + act[0], x.told(0, 2), kind);
        DUE.is("its number", x.told(0, 3), 0);
        DUE.is("its place", x.told(0, 1), 0);
        DUE.is("it is counted", x.count(kind), were + 1);
        for (int r = 0; r < registers.length; r++) {
            DUE.is("register " + r + " of a failed act", x.register(0, r), registers[r]);
        }
        for (int h = 0; h < hands.length; h++) {
            DUE.is("hand " + h + " of a failed act", x.hand(0, h), hands[h]);
        }
    }

    /** Register 0 behind the act, which does not fail. */
    private static void gives(int want, int[] hands, int[] registers, int... act) {
        does(hands, registers, act);
        DUE.is("told(0, 2) of op " + act[0], x.told(0, 2), 0);
        DUE.is("register 0 behind op " + act[0], x.register(0, 0), want);
        x.turn();
    }

    private static int[] row(int... v) {
        return v;
    }

    private static void numbers() {
        fresh();
        int[] none = {};
        gives(-77, none, row(5), Ops.SET, 0, -77);
        gives(Ops.LEAST, none, row(5), Ops.SET, 0, Ops.LEAST);
        gives(12, none, row(5, 7), Ops.ADD, 0, 1);
        gives(Ops.LEAST, none, row(Ops.MOST, 1), Ops.ADD, 0, 1);
        gives(-2, none, row(5, 7), Ops.LESS, 0, 1);
        gives(Ops.MOST, none, row(Ops.LEAST, 1), Ops.LESS, 0, 1);
        gives(0, none, row(9), Ops.LESS, 0, 0);
        gives(-35, none, row(5, -7), Ops.TIMES, 0, 1);
        gives(0, none, row(65536, 65536), Ops.TIMES, 0, 1);
        gives(-3, none, row(-7, 2), Ops.BY, 0, 1);
        gives(-3, none, row(7, -2), Ops.BY, 0, 1);
        gives(3, none, row(-7, -2), Ops.BY, 0, 1);
        gives(Ops.LEAST, none, row(Ops.LEAST, -1), Ops.BY, 0, 1);
        gives(0, none, row(0, 3), Ops.BY, 0, 1);
        fails(Ops.F_ZERO, none, row(7, 0), Ops.BY, 0, 1);
        fails(Ops.F_ZERO, none, row(0, 0), Ops.BY, 0, 0);
        gives(1, none, row(0, 3, 4), Ops.BELOW, 0, 1, 2);
        gives(0, none, row(1, 4, 4), Ops.BELOW, 0, 1, 2);
        gives(0, none, row(1, 5, 4), Ops.BELOW, 0, 1, 2);
        gives(1, none, row(0, Ops.LEAST, Ops.MOST), Ops.BELOW, 0, 1, 2);
        gives(4, none, row(4), Ops.REST, 0, 0);
    }

    private static void placeBehind(int want, int state, int... act) {
        does(row(), row(0, 3), act);
        DUE.is("place behind op " + act[0] + " " + act[1], x.told(0, 1), want);
        DUE.is("state behind op " + act[0] + " " + act[1], x.told(0, 0), state);
        x.run(60);
    }

    private static void jumps() {
        fresh();
        placeBehind(1, Ops.T_READY, Ops.GO, 1);
        placeBehind(2, Ops.T_ENDED, Ops.GO, 2);
        placeBehind(2, Ops.T_ENDED, Ops.GO, 3);
        placeBehind(2, Ops.T_ENDED, Ops.GO, 40);
        placeBehind(2, Ops.T_ENDED, Ops.GOZ, 40, 0);
        placeBehind(1, Ops.T_READY, Ops.GOZ, 40, 1);
        Ops.started(x, 1, Ops.op(Ops.GO, 0));
        DUE.is("run(60) of a ring of one act", x.run(60), 60);
        DUE.is("told(1, 1)", x.told(1, 1), 0);
        DUE.is("told(1, 8)", x.told(1, 8), 60);
    }

    private static void handIs(int want, int[] hands, int[] registers, int... act) {
        does(hands, registers, act);
        DUE.is("told(0, 2) of op " + act[0], x.told(0, 2), 0);
        DUE.is("hand 0 behind op " + act[0], x.hand(0, 0), want);
        x.turn();
    }

    private static void holdAndNew() {
        fresh();
        handIs(0, row(), row(0), Ops.HOLD, 0, 0);
        handIs(8, row(), row(8), Ops.HOLD, 0, 0);
        handIs(Ops.NONE, row(3), row(-1), Ops.HOLD, 0, 0);
        fails(Ops.F_INDEX, row(3), row(9), Ops.HOLD, 0, 0);
        fails(Ops.F_INDEX, row(3), row(-2), Ops.HOLD, 0, 0);
        fails(Ops.F_INDEX, row(3), row(Ops.NONE), Ops.HOLD, 0, 0);
        fails(Ops.F_INDEX, row(3), row(Ops.MOST), Ops.HOLD, 0, 0);
        fails(Ops.F_INDEX, row(3), row(Ops.LEAST), Ops.HOLD, 0, 0);
        handIs(9, row(), row(12), Ops.NEW, 0, Ops.THINGS, 0);
        DUE.is("of(9, 0)", x.of(9, 0), Ops.THINGS);
        DUE.is("of(9, 1)", x.of(9, 1), 12);
        DUE.is("item(9, 11)", x.item(9, 11), Ops.NONE);
        handIs(10, row(), row(0), Ops.NEW, 0, Ops.INTS, 0);
        DUE.is("of(10, 1)", x.of(10, 1), 0);
        // of what is no ROW Rc does not matter
        handIs(11, row(), row(-5), Ops.NEW, 0, Ops.CHEST, 0);
        handIs(12, row(), row(13), Ops.NEW, 0, Ops.PLAIN, 0);
        DUE.is("item(11, 0): no ROW", x.item(11, 0), Ops.BAD);
        DUE.is("item(12, 0): no ROW", x.item(12, 0), Ops.BAD);
        fails(Ops.F_SIZE, row(3), row(-1), Ops.NEW, 0, Ops.BYTES, 0);
        fails(Ops.F_SIZE, row(3), row(Ops.LEAST), Ops.NEW, 0, Ops.BOXES, 0);
        fails(Ops.F_ROOM, row(3), row(13), Ops.NEW, 0, Ops.INTS, 0);
        fails(Ops.F_ROOM, row(3), row(Ops.MOST), Ops.NEW, 0, Ops.THINGS, 0);
        DUE.is("count(13)", x.count(13), 13);
    }

    private static void newRoom() {
        fresh();
        while (x.thing(Ops.PLAIN, 0) != Ops.FULL) {
            continue;
        }
        fails(Ops.F_ROOM, row(3), row(0), Ops.NEW, 0, Ops.PLAIN, 0);
        fails(Ops.F_ROOM, row(3), row(2), Ops.NEW, 0, Ops.INTS, 0);
        // ROOM is told ahead of SIZE
        fails(Ops.F_ROOM, row(3), row(-1), Ops.NEW, 0, Ops.INTS, 0);
        DUE.is("count(13)", x.count(13), 32);
        handIs(31, row(), row(31), Ops.HOLD, 0, 0);
        fails(Ops.F_INDEX, row(), row(32), Ops.HOLD, 0, 0);
    }

    private static void samePass() {
        fresh();
        gives(1, row(2, 2), row(5), Ops.SAME, 0, 0, 1);
        gives(0, row(1, 8), row(5), Ops.SAME, 0, 0, 1);
        gives(1, row(Ops.NONE, Ops.NONE), row(5), Ops.SAME, 0, 0, 1);
        gives(0, row(0, Ops.NONE), row(5), Ops.SAME, 0, 0, 1);
        gives(0, row(Ops.NONE, 0), row(5), Ops.SAME, 0, 0, 1);
        handIs(7, row(1, 7), row(), Ops.PASS, 0, 1);
        handIs(Ops.NONE, row(1, Ops.NONE), row(), Ops.PASS, 0, 1);
    }

    private static void boxes() {
        fresh();
        for (int box = Ops.BOX; box <= Ops.CHEST; box++) {
            does(row(box), row(Ops.MOST - box), Ops.BUMP, 0, 0);
            x.turn();
            DUE.is("of(" + box + ", 1)", x.of(box, 1), Ops.MOST - box);
            gives(Ops.MOST - box, row(0, box), row(0), Ops.COUNT, 0, 1);
            does(row(box), row(box + 1), Ops.BUMP, 0, 0);
            x.turn();
            DUE.is("of(" + box + ", 1) wraps", x.of(box, 1), Ops.LEAST);
        }
        gives(5, row(Ops.CRATE), row(0), Ops.MARK, 0, 0);
        gives(5, row(Ops.CHEST), row(0), Ops.MARK, 0, 0);
        fails(Ops.F_CAST, row(Ops.BOX), row(9), Ops.MARK, 0, 0);
        fresh();
        for (int other : row(Ops.PLAIN, Ops.INTS, Ops.BYTES, Ops.THINGS, Ops.BOXES)) {
            fails(Ops.F_CAST, row(other), row(9), Ops.COUNT, 0, 0);
            fails(Ops.F_CAST, row(other), row(9), Ops.BUMP, 0, 0);
            fails(Ops.F_CAST, row(other), row(9), Ops.MARK, 0, 0);
        }
        int[] nothing = {Ops.NONE};
        for (int op : row(Ops.COUNT, Ops.BUMP, Ops.WEIGH, Ops.MARK)) {
            fails(Ops.F_NULL, nothing, row(9), op, 0, 0);
        }
        gives(1, row(Ops.PLAIN), row(9), Ops.WEIGH, 0, 0);
        gives(4, row(8), row(9), Ops.WEIGH, 0, 0);
        gives(3, row(Ops.BOXES), row(9), Ops.WEIGH, 0, 0);
    }

    private static void readWrite() {
        fresh();
        int[] stored = {200, -56, 127, 128, -129, 255, 256, Ops.LEAST, Ops.MOST};
        int[] asBytes = {-56, -56, 127, -128, 127, -1, 0, 0, -1};
        for (int i = 0; i < stored.length; i++) {
            does(row(Ops.INTS), row(2, stored[i]), Ops.WRITE, 0, 0, 1);
            x.turn();
            gives(stored[i], row(Ops.INTS), row(2), Ops.READ, 0, 0, 0);
            does(row(Ops.BYTES), row(2, stored[i]), Ops.WRITE, 0, 0, 1);
            x.turn();
            gives(asBytes[i], row(Ops.BYTES), row(2), Ops.READ, 0, 0, 0);
            DUE.is("item(5, 2)", x.item(Ops.BYTES, 2), asBytes[i]);
        }
        DUE.is("item(4, 1)", x.item(Ops.INTS, 1), 0);
        fresh();
        for (int size = Ops.INTS; size <= Ops.BOXES; size++) {
            gives(3, row(size), row(0), Ops.SIZE, 0, 0);
        }
        for (int other = Ops.PLAIN; other <= Ops.CHEST; other++) {
            fails(Ops.F_CAST, row(other), row(9), Ops.SIZE, 0, 0);
        }
        fails(Ops.F_NULL, row(Ops.NONE), row(9), Ops.SIZE, 0, 0);
        for (int op : row(Ops.READ, Ops.WRITE)) {
            fresh();
            for (int other : row(Ops.PLAIN, Ops.BOX, Ops.CRATE, Ops.CHEST, Ops.THINGS, Ops.BOXES)) {
                fails(Ops.F_CAST, row(other), row(9), op, 0, 0, 0);
            }
            fails(Ops.F_NULL, row(Ops.NONE), row(9), op, 0, 0, 0);
            for (int i : row(-1, 3, Ops.LEAST, Ops.MOST)) {
                fails(Ops.F_INDEX, row(Ops.INTS), row(i), op, 0, 0, 0);
                fails(Ops.F_INDEX, row(Ops.BYTES), row(i), op, 0, 0, 0);
            }
        }
    }

    private static void put(int place, int row, int thing) {
        does(row(row, thing), row(place), Ops.PUT, 0, 0, 1);
        DUE.is("told(0, 2) of a PUT", x.told(0, 2), 0);
        x.turn();
        DUE.is("item(" + row + ", " + place + ")", x.item(row, place), thing);
    }

    private static void takePut() {
        fresh();
        for (int thing = 0; thing < 8; thing++) {
            put(1, Ops.THINGS, thing);
            handIs(thing, row(Ops.THINGS), row(1), Ops.TAKE, 0, 0, 0);
        }
        put(1, Ops.THINGS, Ops.NONE);
        for (int box : row(Ops.BOX, Ops.CRATE, Ops.CHEST, Ops.NONE, 8)) {
            put(2, Ops.BOXES, box);
            handIs(box, row(Ops.BOXES), row(2), Ops.TAKE, 0, 0, 0);
        }
        for (int other : row(Ops.PLAIN, Ops.INTS, Ops.BYTES, Ops.THINGS, Ops.BOXES)) {
            fails(Ops.F_STORE, row(Ops.BOXES, other), row(2), Ops.PUT, 0, 0, 1);
            // INDEX is told ahead of STORE
            fails(Ops.F_INDEX, row(Ops.BOXES, other), row(3), Ops.PUT, 0, 0, 1);
            DUE.is("item(7, 2)", x.item(Ops.BOXES, 2), 8);
        }
        for (int op : row(Ops.TAKE, Ops.PUT)) {
            fresh();
            for (int other : row(Ops.PLAIN, Ops.BOX, Ops.CRATE, Ops.CHEST, Ops.INTS, Ops.BYTES)) {
                fails(Ops.F_CAST, row(other, other), row(9), op, 0, op == Ops.TAKE ? 1 : 0, 0);
            }
            fails(Ops.F_NULL, row(Ops.NONE), row(9), op, 0, 0, 0);
            for (int i : row(-1, 3, Ops.LEAST, Ops.MOST)) {
                fails(Ops.F_INDEX, row(Ops.THINGS), row(i), op, 0, 0, 0);
                fails(Ops.F_INDEX, row(Ops.BOXES), row(i), op, 0, 0, 0);
            }
        }
    }

    private static void write(int row, int... values) {
        for (int i = 0; i < values.length; i++) {
            does(row(row), row(i, values[i]), Ops.WRITE, 0, 0, 1);
            x.turn();
        }
    }

    private static void rowIs(int row, int... values) {
        for (int i = 0; i < values.length; i++) {
            DUE.is("item(" + row + ", " + i + ")", x.item(row, i), values[i]);
        }
    }

    private static void copies() {
        fresh();
        int longer = x.thing(Ops.INTS, 5);
        int empty = x.thing(Ops.INTS, 0);
        write(Ops.INTS, 300, -7, 9);
        write(Ops.BYTES, -1, 128, 5);
        does(row(Ops.INTS, longer), row(2), Ops.COPY, 0, 1, 0);
        x.turn();
        rowIs(longer, 0, 0, 300, -7, 9);
        does(row(Ops.BYTES, longer), row(0), Ops.COPY, 0, 1, 0);
        x.turn();
        rowIs(longer, -1, -128, 5, -7, 9);
        // those ahead have come
        fails(Ops.F_INDEX, row(Ops.INTS, longer), row(4), Ops.COPY, 0, 1, 0);
        rowIs(longer, -1, -128, 5, -7, 300);
        fails(Ops.F_INDEX, row(longer, Ops.INTS), row(0), Ops.COPY, 0, 1, 0);
        rowIs(Ops.INTS, -1, -128, 5);
        // a first PLACE that is none lets none come, though later ones were there
        fails(Ops.F_INDEX, row(longer, Ops.INTS), row(-1), Ops.COPY, 0, 1, 0);
        fails(Ops.F_INDEX, row(longer, Ops.INTS), row(Ops.MOST), Ops.COPY, 0, 1, 0);
        fails(Ops.F_INDEX, row(longer, empty), row(0), Ops.COPY, 0, 1, 0);
        rowIs(Ops.INTS, -1, -128, 5);
        // nothing comes from a ROW without PLACES, so nothing is met
        for (int to = Ops.INTS; to <= Ops.BOXES; to++) {
            gives(99, row(empty, to), row(99), Ops.COPY, 0, 1, 0);
        }
        // CAST of either is met ahead of NULL of either
        fails(Ops.F_CAST, row(Ops.CHEST, Ops.INTS), row(0), Ops.COPY, 0, 1, 0);
        fails(Ops.F_CAST, row(Ops.INTS, Ops.PLAIN), row(0), Ops.COPY, 0, 1, 0);
        fails(Ops.F_CAST, row(Ops.NONE, Ops.BOX), row(0), Ops.COPY, 0, 1, 0);
        fails(Ops.F_CAST, row(Ops.BOX, Ops.NONE), row(0), Ops.COPY, 0, 1, 0);
        fails(Ops.F_NULL, row(Ops.NONE, Ops.INTS), row(0), Ops.COPY, 0, 1, 0);
        fails(Ops.F_NULL, row(empty, Ops.NONE), row(0), Ops.COPY, 0, 1, 0);
        fails(Ops.F_NULL, row(Ops.NONE, Ops.NONE), row(0), Ops.COPY, 0, 1, 0);
    }

    private static void copyFits() {
        fresh();
        int bytes = x.thing(Ops.BYTES, 4);
        write(Ops.BYTES, 7, 8, -9);
        does(row(Ops.BYTES, bytes), row(1), Ops.COPY, 0, 1, 0);
        x.turn();
        rowIs(bytes, 0, 7, 8, -9);
        fails(Ops.F_STORE, row(Ops.INTS, Ops.BYTES), row(0), Ops.COPY, 0, 1, 0);
        fails(Ops.F_INDEX, row(Ops.INTS, Ops.BYTES), row(3), Ops.COPY, 0, 1, 0);
        for (int things = Ops.THINGS; things <= Ops.BOXES; things++) {
            for (int numbers = Ops.INTS; numbers <= Ops.BYTES; numbers++) {
                // NOTHING, too, is no number
                fails(Ops.F_STORE, row(things, numbers), row(0), Ops.COPY, 0, 1, 0);
                fails(Ops.F_STORE, row(numbers, things), row(0), Ops.COPY, 0, 1, 0);
            }
        }
        put(0, Ops.THINGS, Ops.CHEST);
        put(2, Ops.THINGS, Ops.PLAIN);
        fails(Ops.F_STORE, row(Ops.THINGS, Ops.BOXES), row(0), Ops.COPY, 0, 1, 0);
        rowIs(Ops.BOXES, Ops.CHEST, Ops.NONE, Ops.NONE);
        fails(Ops.F_INDEX, row(Ops.THINGS, Ops.BOXES), row(1), Ops.COPY, 0, 1, 0);
        rowIs(Ops.BOXES, Ops.CHEST, Ops.CHEST, Ops.NONE);
        put(2, Ops.THINGS, 8);
        does(row(Ops.THINGS, Ops.BOXES), row(0), Ops.COPY, 0, 1, 0);
        x.turn();
        rowIs(Ops.BOXES, Ops.CHEST, Ops.NONE, 8);
        put(1, Ops.BOXES, Ops.CRATE);
        does(row(Ops.BOXES, Ops.THINGS), row(0), Ops.COPY, 0, 1, 0);
        x.turn();
        rowIs(Ops.THINGS, Ops.CHEST, Ops.CRATE, 8);
    }

    private static void copyOntoItself() {
        fresh();
        write(Ops.INTS, 1, 2, 3);
        gives(0, row(Ops.INTS, Ops.INTS), row(0), Ops.COPY, 0, 1, 0);
        rowIs(Ops.INTS, 1, 2, 3);
        // each as it stands then: the first one goes on and on
        fails(Ops.F_INDEX, row(Ops.INTS), row(1), Ops.COPY, 0, 0, 0);
        rowIs(Ops.INTS, 1, 1, 1);
    }
}
