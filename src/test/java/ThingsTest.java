/** Promises 2 to 6: thing, of, item, weigh, trace. */
public final class ThingsTest {
    private static final Due DUE = new Due("ThingsTest");

    public static void main(String[] args) {
        thing();
        of();
        item();
        weigh();
        trace();
        DUE.close();
    }

    private static void thing() {
        MonitorTurns x = new MonitorTurns();
        DUE.is("thing(-1, 0)", x.thing(-1, 0), Ops.BAD);
        DUE.is("thing(8, 0)", x.thing(8, 0), Ops.BAD);
        for (int kind = Ops.INTS; kind <= Ops.BOXES; kind++) {
            DUE.is("thing(" + kind + ", -1)", x.thing(kind, -1), Ops.BAD);
            DUE.is("thing(" + kind + ", 13)", x.thing(kind, 13), Ops.BAD);
            DUE.is("thing(" + kind + ", LEAST)", x.thing(kind, Ops.LEAST), Ops.BAD);
            DUE.is("thing(" + kind + ", MOST)", x.thing(kind, Ops.MOST), Ops.BAD);
        }
        DUE.is("count(13)", x.count(13), 0);
        for (int i = 0; i < 8; i++) {
            DUE.is("thing(" + i + ", 12)", x.thing(i, 12), i);
            DUE.is("of(" + i + ", 0)", x.of(i, 0), i);
        }
        // of what is no ROW n is not looked at
        for (int kind = Ops.PLAIN; kind <= Ops.CHEST; kind++) {
            DUE.is("thing(" + kind + ", -7)", x.thing(kind, -7), 8 + 2 * kind);
            DUE.is("thing(" + kind + ", 99)", x.thing(kind, 99), 9 + 2 * kind);
        }
        for (int i = 16; i < 32; i++) {
            DUE.is("thing(4, 0)", x.thing(Ops.INTS, 0), i);
        }
        DUE.is("thing(0, 0), the 33rd", x.thing(Ops.PLAIN, 0), Ops.FULL);
        DUE.is("thing(9, 0), BAD ahead of FULL", x.thing(9, 0), Ops.BAD);
        DUE.is("thing(4, 13), BAD ahead of FULL", x.thing(Ops.INTS, 13), Ops.BAD);
        DUE.is("count(13)", x.count(13), 32);
    }

    private static void of() {
        MonitorTurns x = new MonitorTurns();
        for (int kind = 0; kind < 8; kind++) {
            x.thing(kind, 5);
        }
        int[] sizes = {0, 0, 0, 0, 5, 5, 5, 5};
        for (int i = 0; i < 8; i++) {
            DUE.is("of(" + i + ", 0)", x.of(i, 0), i);
            DUE.is("of(" + i + ", 1)", x.of(i, 1), sizes[i]);
            DUE.is("of(" + i + ", 2)", x.of(i, 2), Ops.NONE);
            DUE.is("of(" + i + ", 3)", x.of(i, 3), 0);
            DUE.is("of(" + i + ", 4)", x.of(i, 4), 0);
            DUE.is("of(" + i + ", 5)", x.of(i, 5), 0);
            DUE.is("of(" + i + ", -1)", x.of(i, -1), Ops.BAD);
            DUE.is("of(" + i + ", 6)", x.of(i, 6), Ops.BAD);
        }
        DUE.is("of(-1, 0)", x.of(-1, 0), Ops.BAD);
        DUE.is("of(8, 0)", x.of(8, 0), Ops.BAD);
        DUE.is("of(NONE, 0)", x.of(Ops.NONE, 0), Ops.BAD);
        ofWithThreads();
    }

    /** Thread 0 is twice in thing 0, 1 and 2 are blocked by it; 3 waits on it. */
    private static void ofWithThreads() {
        MonitorTurns x = new MonitorTurns();
        x.thing(Ops.CHEST, 0);
        x.thing(Ops.BOX, 0);
        int[] enter = Ops.op(Ops.ENTER, 0);
        Ops.started(x, 3, Ops.op(Ops.BUMP, 0, 0), enter, Ops.op(Ops.WAIT, 0, 1));
        Ops.hands(x, 3, 0);
        Ops.registers(x, 3, -9);
        DUE.is("run(60)", x.run(60), 3);
        Ops.started(x, 0, enter, enter, Ops.op(Ops.REST), Ops.op(Ops.REST));
        Ops.started(x, 1, enter);
        Ops.started(x, 2, enter);
        for (int t = 0; t < 3; t++) {
            Ops.hands(x, t, 0);
        }
        DUE.is("run(4)", x.run(4), 4);
        int[] want = {Ops.CHEST, -9, 0, 2, 2, 1};
        int[] bare = {Ops.BOX, 0, Ops.NONE, 0, 0, 0};
        for (int what = 0; what < 6; what++) {
            DUE.is("of(0, " + what + ")", x.of(0, what), want[what]);
            DUE.is("of(1, " + what + ")", x.of(1, what), bare[what]);
        }
    }

    private static void item() {
        MonitorTurns x = new MonitorTurns();
        for (int kind = 0; kind < 8; kind++) {
            x.thing(kind, 2);
        }
        for (int i = 0; i < 4; i++) {
            DUE.is("item(" + i + ", 0)", x.item(i, 0), Ops.BAD);
        }
        int[] first = {0, 0, 0, 0, 0, 0, Ops.NONE, Ops.NONE};
        for (int i = 4; i < 8; i++) {
            DUE.is("item(" + i + ", -1)", x.item(i, -1), Ops.BAD);
            DUE.is("item(" + i + ", 0)", x.item(i, 0), first[i]);
            DUE.is("item(" + i + ", 1)", x.item(i, 1), first[i]);
            DUE.is("item(" + i + ", 2)", x.item(i, 2), Ops.BAD);
            DUE.is("item(" + i + ", MOST)", x.item(i, Ops.MOST), Ops.BAD);
        }
        DUE.is("item(8, 0)", x.item(8, 0), Ops.BAD);
        DUE.is("item(-1, 0)", x.item(-1, 0), Ops.BAD);
        x.thing(Ops.INTS, 0);
        DUE.is("item(8, 0) of a ROW without PLACES", x.item(8, 0), Ops.BAD);
        Ops.started(x, 0, Ops.op(Ops.WRITE, 0, 1, 2), Ops.op(Ops.WRITE, 1, 1, 2), Ops.op(Ops.PUT, 2, 1, 3),
                Ops.op(Ops.PUT, 3, 1, 4));
        Ops.hands(x, 0, 4, 5, 6, 0, 3);
        x.give(0, 3, 7);
        x.give(0, 4, 3);
        Ops.registers(x, 0, 0, 1, -200);
        DUE.is("run(60)", x.run(60), 4);
        DUE.is("told(0, 2)", x.told(0, 2), 0);
        DUE.is("item(4, 1)", x.item(4, 1), -200);
        DUE.is("item(5, 1)", x.item(5, 1), 56);
        DUE.is("item(6, 1)", x.item(6, 1), 7);
        DUE.is("item(7, 1)", x.item(7, 1), 3);
        DUE.is("item(7, 0)", x.item(7, 0), Ops.NONE);
    }

    private static void weigh() {
        MonitorTurns x = new MonitorTurns();
        for (int kind = 0; kind < 8; kind++) {
            x.thing(kind, 12 - kind);
        }
        int[] want = {1, 4, 18, 159, 8, 7, 6, 5};
        for (int i = 0; i < 8; i++) {
            DUE.is("weigh(" + i + ")", x.weigh(i), want[i]);
        }
        DUE.is("weigh(-1)", x.weigh(-1), Ops.BAD);
        DUE.is("weigh(8)", x.weigh(8), Ops.BAD);
        DUE.is("weigh(NONE)", x.weigh(Ops.NONE), Ops.BAD);
        bumpAll(x, 100);
        DUE.is("weigh(1) at 100", x.weigh(1), 104);
        DUE.is("weigh(2) at 100", x.weigh(2), 218);
        DUE.is("weigh(3) at 100", x.weigh(3), 359);
        bumpAll(x, Ops.MOST - 100);
        DUE.is("weigh(1) wraps", x.weigh(1), Ops.LEAST + 3);
        DUE.is("weigh(2) wraps", x.weigh(2), 16);
        DUE.is("weigh(3) wraps", x.weigh(3), 157);
        DUE.is("weigh(0) as ever", x.weigh(0), 1);
    }

    private static void bumpAll(MonitorTurns x, int by) {
        Ops.started(x, 0, Ops.op(Ops.BUMP, 0, 0), Ops.op(Ops.BUMP, 1, 0), Ops.op(Ops.BUMP, 2, 0));
        Ops.hands(x, 0, 1, 2, 3);
        Ops.registers(x, 0, by);
        DUE.is("run(60)", x.run(60), 3);
    }

    private static void traceIs(MonitorTurns x, String when, int... want) {
        DUE.is("trace(-1) " + when, x.trace(-1), Ops.NONE);
        for (int i = 0; i < want.length; i++) {
            DUE.is("trace(" + i + ") " + when, x.trace(i), want[i]);
        }
        DUE.is("trace behind the last one " + when, x.trace(want.length), Ops.NONE);
        DUE.is("trace(MOST) " + when, x.trace(Ops.MOST), Ops.NONE);
        DUE.is("trace(LEAST) " + when, x.trace(Ops.LEAST), Ops.NONE);
    }

    private static void trace() {
        MonitorTurns x = new MonitorTurns();
        for (int kind = 0; kind < 8; kind++) {
            x.thing(kind, 0);
        }
        traceIs(x, "at first");
        x.weigh(8);
        traceIs(x, "behind a BAD weigh");
        x.weigh(Ops.CHEST);
        traceIs(x, "of a CHEST", 4, 3, 2, 7, 9);
        x.weigh(-1);
        traceIs(x, "behind a BAD weigh", 4, 3, 2, 7, 9);
        x.weigh(Ops.CRATE);
        traceIs(x, "of a CRATE", 3, 2, 6, 9);
        x.weigh(Ops.BOX);
        traceIs(x, "of a BOX", 2, 6, 8);
        x.weigh(Ops.PLAIN);
        traceIs(x, "of a PLAIN one", 1);
        for (int row = Ops.INTS; row <= Ops.BOXES; row++) {
            x.weigh(row);
            traceIs(x, "of a ROW", 5);
        }
        Ops.started(x, 0, Ops.op(Ops.WEIGH, 0, 1), Ops.op(Ops.WEIGH, 0, 0));
        Ops.hands(x, 0, Ops.NONE, Ops.CRATE);
        x.turn();
        traceIs(x, "of a WEIGH", 3, 2, 6, 9);
        x.turn();
        DUE.is("told(0, 2)", x.told(0, 2), Ops.F_NULL);
        traceIs(x, "behind a WEIGH that meets NULL", 3, 2, 6, 9);
    }
}
