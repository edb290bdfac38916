import java.util.Arrays;
import java.util.function.Supplier;
import java.util.function.ToIntFunction;

/**
 * "Nothing changes then": behind a refused call, or one that only tells, an object tells all that one tells
 * which was made in the same way without that call, and goes on in the same way.
 */
public final class RefusedTest extends Scenes {
    private static final Due DUE = new Due("RefusedTest");
    private static final int[] OUTSIDE = {LEAST, -1, MOST};

    public static void main(String[] args) {
        badNumbers();
        underWay();
        notNew();
        noneThreads();
        noRoom();
        fullOfFailures();
        overAndStuck();
        whatIsTold();
        DUE.close();
    }

    private static void changesNothing(String call, Supplier<MonitorTurns> scene, int answer,
            ToIntFunction<MonitorTurns> refused) {
        MonitorTurns x = scene.get();
        DUE.is(call, refused.applyAsInt(x), answer);
        DUE.holds(call + " changes nothing", Arrays.equals(everything(x), everything(scene.get())));
    }

    /** A life of its own in each state: RULE and ORDER are not 0, something was weighed, logged, raised. */
    private static MonitorTurns lively(int state) {
        MonitorTurns x = inState(state);
        x.rule(1);
        x.order(2);
        x.weigh(1);
        go(x, 4, row(1), row(6), op(BUMP, 0, 0), op(TRY, 3, 4095), op(RAISE, 0), op(SLEEP, 0), op(GO, 0));
        program(x, 6, op(REST), op(REST));
        x.thread(3, 6, 5);
        return x;
    }

    private static void badInEachState(String call, ToIntFunction<MonitorTurns> refused) {
        for (int state = T_NONE; state <= T_ENDED; state++) {
            int s = state;
            changesNothing(call + " in state " + state, () -> lively(s), BAD, refused);
        }
    }

    private static void badNumbers() {
        DUE.sentence("BAD: a number is not as told; .. Nothing changes then.");
        for (int v : OUTSIDE) {
            badInEachState("thing(" + v + ", 0)", x -> x.thing(v, 0));
            badInEachState("thing(4, " + v + ")", x -> x.thing(INTS, v));
            badInEachState("weigh(" + v + ")", x -> x.weigh(v));
            badInEachState("act(" + v + ", 36, ..)", x -> x.act(v, REST, 0, 0, 0));
            badInEachState("act(7, " + v + ", ..)", x -> x.act(7, v, 0, 0, 0));
            badInEachState("act(7, 1, " + v + ", ..)", x -> x.act(7, ADD, v, 0, 0));
            badInEachState("act(7, 10, .., " + v + ")", x -> x.act(7, SAME, 0, 0, v));
            badInEachState("wipe(" + v + ")", x -> x.wipe(v));
            badInEachState("thread(" + v + ", 0, 0)", x -> x.thread(v, 0, 0));
            badInEachState("thread(3, " + v + ", 0)", x -> x.thread(3, v, 0));
            badInEachState("thread(3, 0, " + v + ")", x -> x.thread(3, 0, v));
            badInEachState("set(" + v + ", 0, 9)", x -> x.set(v, 0, 9));
            badInEachState("set(3, " + v + ", 9)", x -> x.set(3, v, 9));
            badInEachState("give(" + v + ", 0, 0)", x -> x.give(v, 0, 0));
            badInEachState("give(3, " + v + ", 0)", x -> x.give(3, v, 0));
            badInEachState("give(3, 0, " + v + ")", x -> x.give(3, 0, v));
            badInEachState("start(" + v + ")", x -> x.start(v));
            badInEachState("broken(" + v + ")", x -> x.broken(v));
            badInEachState("rule(" + v + ")", x -> x.rule(v));
            badInEachState("order(" + v + ")", x -> x.order(v));
            badInEachState("run(" + v + ")", x -> x.run(v));
        }
        badInEachState("run(0)", x -> x.run(0));
        badInEachState("run(61)", x -> x.run(61));
        badInEachState("thing(7, 13)", x -> x.thing(BOXES, 13));
        badInEachState("thread(3, 0, 10)", x -> x.thread(3, 0, 10));
    }

    private static void underWay() {
        DUE.sentence("STATE .. as told. Nothing changes then. (UNDER WAY)");
        for (int state = T_READY; state <= T_JOINING; state++) {
            int s = state;
            changesNothing("act(0, 36, ..)", () -> lively(s), STATE, x -> x.act(0, REST, 0, 0, 0));
            changesNothing("wipe(0)", () -> lively(s), STATE, x -> x.wipe(0));
            changesNothing("thread(0, 7, 3)", () -> lively(s), STATE, x -> x.thread(0, 7, 3));
        }
    }

    private static void notNew() {
        DUE.sentence("STATE .. as told. Nothing changes then. (not NEW)");
        for (int state : row(T_NONE, T_READY, T_BLOCKED, T_WAITING, T_SLEEPING, T_JOINING, T_ENDED)) {
            changesNothing("start(0) in state " + state, () -> lively(state), STATE, x -> x.start(0));
        }
    }

    private static void noneThreads() {
        DUE.sentence("BAD: also a THREAD that is NONE. (Nothing changes then; broken(): Others: nothing)");
        changesNothing("set(0, 0, 7)", () -> lively(T_NONE), BAD, x -> x.set(0, 0, 7));
        changesNothing("give(0, 0, 1)", () -> lively(T_NONE), BAD, x -> x.give(0, 0, 1));
        changesNothing("give(0, 0, NONE)", () -> lively(T_NONE), BAD, x -> x.give(0, 0, NONE));
        for (int state : row(T_NONE, T_NEW, T_ENDED)) {
            changesNothing("broken(0) in state " + state, () -> lively(state), 0, x -> x.broken(0));
        }
    }

    private static MonitorTurns fortyActs() {
        MonitorTurns x = inState(T_NEW);
        while (x.act(0, REST, 0, 0, 0) < 40) {
            continue;
        }
        return x;
    }

    private static void noRoom() {
        DUE.sentence("FULL: as told. Nothing changes then. (thing, act)");
        changesNothing("act(0, 36, ..), the 41st", RefusedTest::fortyActs, FULL, x -> x.act(0, REST, 0, 0, 0));
        for (int kind = PLAIN; kind <= BOXES; kind++) {
            MonitorTurns x = new MonitorTurns();
            for (int i = 0; i < 32; i++) {
                x.thing(i % 8, 1);
            }
            int[] things = allThings(x);
            DUE.is("thing(" + kind + ", 2), the 33rd", x.thing(kind, 2), FULL);
            DUE.holds("thing() changes nothing", Arrays.equals(things, allThings(x)));
            DUE.is("count(13)", x.count(13), 32);
        }
    }

    private static MonitorTurns threeThousand() {
        MonitorTurns x = new MonitorTurns();
        go(x, 0, row(), row(), op(TRY, 0, 128), op(RAISE, 0));
        for (int i = 0; i < 100; i++) {
            x.run(60);
        }
        return x;
    }

    private static void fullOfFailures() {
        DUE.sentence("FULL: as told. Nothing changes then. (turn, run)");
        changesNothing("turn()", RefusedTest::threeThousand, FULL, MonitorTurns::turn);
        changesNothing("run(1)", RefusedTest::threeThousand, FULL, x -> x.run(1));
        changesNothing("run(60)", RefusedTest::threeThousand, FULL, x -> x.run(60));
        changesNothing("run(61)", RefusedTest::threeThousand, BAD, x -> x.run(61));
    }

    private static void overAndStuck() {
        DUE.sentence("OVER, STUCK: there is none (TIME stays).");
        for (int state : row(T_NONE, T_NEW, T_ENDED)) {
            changesNothing("turn() in state " + state, () -> inState(state), OVER, MonitorTurns::turn);
            changesNothing("run(60) in state " + state, () -> inState(state), 0, x -> x.run(60));
        }
        for (int state : row(T_WAITING, T_JOINING)) {
            changesNothing("turn() in state " + state, () -> inState(state), STUCK, MonitorTurns::turn);
            changesNothing("run(60) in state " + state, () -> inState(state), 0, x -> x.run(60));
        }
    }

    private static void whatIsTold() {
        DUE.sentence("what is told (of, item, trace, told, register, hand, ring, log, count change nothing)");
        for (int state = T_NONE; state <= T_ENDED; state++) {
            int s = state;
            for (int v : row(LEAST, -1, 0, 1, 2, 5, MOST)) {
                MonitorTurns x = lively(s);
                changesNothing("of(1, " + v + ")", () -> lively(s), x.of(1, v), y -> y.of(1, v));
                changesNothing("item(1, " + v + ")", () -> lively(s), x.item(1, v), y -> y.item(1, v));
                changesNothing("trace(" + v + ")", () -> lively(s), x.trace(v), y -> y.trace(v));
                changesNothing("told(0, " + v + ")", () -> lively(s), x.told(0, v), y -> y.told(0, v));
                changesNothing("register(0, " + v + ")", () -> lively(s), x.register(0, v), y -> y.register(0, v));
                changesNothing("hand(0, " + v + ")", () -> lively(s), x.hand(0, v), y -> y.hand(0, v));
                changesNothing("ring(" + v + ")", () -> lively(s), x.ring(v), y -> y.ring(v));
                changesNothing("log(0, " + v + ")", () -> lively(s), x.log(0, v), y -> y.log(0, v));
                changesNothing("count(" + v + ")", () -> lively(s), x.count(v), y -> y.count(v));
            }
        }
    }
}
