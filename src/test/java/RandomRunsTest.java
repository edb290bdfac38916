import java.util.Random;

/**
 * Runs of up to 512 calls, made from fixed seeds, on the class and on the Model: each answer, and now and
 * then all that is told, must be the same. At the end it looks whether the runs came to all there is.
 */
public final class RandomRunsTest {
    private static final int RUNS = 6000;
    private static final int CALLS = 512;

    private final Due due = new Due("RandomRunsTest");
    private final int[] statesSeen = new int[8];
    private final int[] failuresSeen = new int[12];
    private final int[] opsSeen = new int[37];
    private final int[] ringsSeen = new int[7];
    private final int[] answersSeen = new int[8];
    private Random random;
    private MonitorTurns x;
    private Model m;
    private int seed;
    private boolean differs;

    public static void main(String[] args) {
        new RandomRunsTest().all();
    }

    private void all() {
        for (seed = 0; seed < RUNS; seed++) {
            random = new Random(seed);
            x = new MonitorTurns();
            m = new Model();
            differs = false;
            oneRun();
            due.holds("run " + seed + " is as the model's", !differs);
        }
        seenAll("state", statesSeen, 0, 7);
        seenAll("failure", failuresSeen, 1, 11);
        seenAll("op", opsSeen, 0, 36);
        seenAll("ring of length", ringsSeen, 0, 3);
        seenAll("negative answer", answersSeen, 1, 7);
        due.close();
    }

    private void seenAll(String what, int[] seen, int from, int to) {
        for (int i = from; i <= to; i++) {
            due.holds(what + " " + i + " was come upon", seen[i] > 0);
        }
    }

    private void same(String call, int got, int want) {
        if (got != want && !differs) {
            differs = true;
            due.is("seed " + seed + ": " + call, got, want);
        }
        if (got < 0 && got >= -7) {
            answersSeen[-got]++;
        }
    }

    private int upTo(int n) {
        return random.nextInt(n);
    }

    private boolean oneIn(int n) {
        return random.nextInt(n) == 0;
    }

    /** A number as it may be told, now and then one that is not as told. */
    private int loose(int n) {
        if (oneIn(40)) {
            int[] odd = {-1, n, -4, Integer.MAX_VALUE, Integer.MIN_VALUE, n + 1};
            return odd[upTo(odd.length)];
        }
        return upTo(n);
    }

    private int value() {
        int[] odd = {-1, 127, 128, -129, 255, 1000000, 1000001, Integer.MIN_VALUE, Integer.MAX_VALUE};
        return oneIn(4) ? odd[upTo(odd.length)] : upTo(7);
    }

    private void oneRun() {
        int style = upTo(6);
        int calls = 0;
        calls += makeThings(style == 0 ? 30 : 4 + upTo(10));
        for (int p = 0; p < 6; p++) {
            calls += style > 3 ? writeCrowd(p) : writeProgram(p, 4 + upTo(style == 1 ? 36 : 14), style);
        }
        for (int t = 0; t < 6; t++) {
            calls += style > 3 ? makeOneOfCrowd(t) : makeThread(t);
        }
        int shown = 0;
        while (calls < CALLS && !differs) {
            anyCall(style);
            calls++;
            shown++;
            if (shown % 25 == 0) {
                compareAll();
            }
        }
        compareAll();
    }

    private int makeThings(int n) {
        for (int i = 0; i < n; i++) {
            callThing();
        }
        return n;
    }

    private int writeProgram(int p, int n, int style) {
        for (int i = 0; i < n; i++) {
            callAct(p, style);
        }
        return n;
    }

    /** A program that meets all its failures, goes round, and seldom does but wait and be waited for. */
    private int writeCrowd(int p) {
        int[] often = {22, 22, 23, 24, 24, 24, 25, 26, 27, 28, 30, 31, 10, 36};
        int n = 5 + upTo(12);
        int h = upTo(3);
        fixedAct(p, 33, 0, 4095);
        fixedAct(p, 22, h, 0);
        for (int i = 1; i < n; i++) {
            h = oneIn(6) ? upTo(3) : h;
            fixedAct(p, oneIn(16) ? upTo(33) : often[upTo(often.length)], h, upTo(6));
        }
        fixedAct(p, oneIn(4) ? 36 : 6, 0, 0);
        return n + 2;
    }

    private void fixedAct(int p, int op, int a, int b) {
        same("act(" + p + ", " + op + ", ..)", x.act(p, op, a, b, 0), m.act(p, op, a, b, 0));
    }

    /** All hold the same few things, and have small numbers to sleep by, wait by and join by. */
    private int makeOneOfCrowd(int t) {
        int rank = upTo(4);
        same("thread", x.thread(t, t, rank), m.thread(t, t, rank));
        for (int i = 0; i < 6; i++) {
            int thing = upTo(2);
            int v = oneIn(2) ? 0 : upTo(6);
            same("give", x.give(t, i, thing), m.give(t, i, thing));
            same("set", x.set(t, i, v), m.set(t, i, v));
        }
        same("start", x.start(t), m.start(t));
        return 14;
    }

    private int makeThread(int t) {
        int rank = loose(10);
        same("thread", x.thread(t, t, rank), m.thread(t, t, rank));
        for (int h = 0; h < 6; h++) {
            callGive(t, h);
        }
        int r = upTo(6);
        int v = value();
        same("set", x.set(t, r, v), m.set(t, r, v));
        if (!oneIn(4)) {
            same("start", x.start(t), m.start(t));
        }
        return 9;
    }

    private void callThing() {
        int kind = loose(8);
        int n = oneIn(3) ? loose(13) : upTo(4);
        same("thing(" + kind + ", " + n + ")", x.thing(kind, n), m.thing(kind, n));
    }

    private void callGive(int t, int h) {
        int count = Math.max(1, Math.min(x.count(13), 6));
        int thing = oneIn(8) ? MonitorTurns.NONE : oneIn(3) ? loose(Math.max(1, x.count(13))) : upTo(count);
        same("give", x.give(t, h, thing), m.give(t, h, thing));
    }

    /** Ops that wait for one another come often; loops are made by GO, handlers by TRY with wide masks. */
    private int anyOp(int style) {
        int[] monitors = {22, 22, 22, 23, 24, 24, 25, 26, 27, 28, 30, 29};
        int[] rows = {16, 17, 18, 19, 20, 21, 21, 9, 8};
        switch (upTo(style == 2 ? 6 : 4)) {
            case 0: return monitors[upTo(monitors.length)];
            case 1: return rows[upTo(rows.length)];
            case 2: return oneIn(2) ? 33 : upTo(37);
            case 3: return upTo(37);
            default: return monitors[upTo(monitors.length)];
        }
    }

    private void callAct(int p, int style) {
        int op = oneIn(60) ? loose(37) : anyOp(style);
        int a = oneIn(3) ? upTo(3) : loose(6);
        int b = loose(6);
        int c = loose(6);
        if (op == 0) {
            b = value();
        } else if (op == 6 || op == 7) {
            a = oneIn(3) ? loose(41) : upTo(12);
        } else if (op == 9) {
            b = loose(8);
        } else if (op == 33) {
            a = oneIn(3) ? loose(41) : upTo(12);
            b = oneIn(3) ? loose(4096) : 4095;
        }
        same("act(" + p + ", " + op + ", ..)", x.act(p, op, a, b, c), m.act(p, op, a, b, c));
    }

    private void noteOpOfNextTurn() {
        int k = x.log(0, 2);
        if (k > 0) {
            failuresSeen[k]++;
        }
    }

    private void anyCall(int style) {
        int t = loose(6);
        switch (upTo(20)) {
            case 0:
            case 1:
            case 2:
            case 3:
            case 4:
                same("turn()", x.turn(), m.turn());
                noteOpOfNextTurn();
                break;
            case 5:
            case 6:
            case 7:
                int n = oneIn(2) ? 1 + upTo(8) : loose(61);
                same("run(" + n + ")", x.run(n), m.run(n));
                break;
            case 8:
                same("broken(" + t + ")", x.broken(t), m.broken(t));
                break;
            case 9:
                same("start(" + t + ")", x.start(t), m.start(t));
                break;
            case 10:
                int p = loose(8);
                int rank = loose(10);
                same("thread(" + t + ")", x.thread(t, p, rank), m.thread(t, p, rank));
                break;
            case 11:
                int r = loose(6);
                int v = value();
                same("set", x.set(t, r, v), m.set(t, r, v));
                break;
            case 12:
            case 13:
                callGive(t, loose(6));
                break;
            case 14:
                int rule = loose(2);
                same("rule(" + rule + ")", x.rule(rule), m.rule(rule));
                break;
            case 15:
                int order = loose(3);
                same("order(" + order + ")", x.order(order), m.order(order));
                break;
            case 16:
                rareCall(style);
                break;
            case 17:
                int w = loose(Math.max(1, x.count(13)));
                same("weigh(" + w + ")", x.weigh(w), m.weigh(w));
                break;
            default:
                query();
                break;
        }
    }

    private void rareCall(int style) {
        int p = loose(8);
        switch (upTo(4)) {
            case 0:
                callThing();
                break;
            case 1:
                same("wipe(" + p + ")", x.wipe(p), m.wipe(p));
                break;
            default:
                callAct(p, style);
                break;
        }
    }

    private void query() {
        int i = loose(33);
        int what = loose(9);
        same("of", x.of(i, what), m.of(i, what));
        same("item", x.item(i, what), m.item(i, what));
        same("trace", x.trace(what), m.trace(what));
        same("told", x.told(i, what), m.told(i, what));
        same("register", x.register(what, i), m.register(what, i));
        same("hand", x.hand(what, i), m.hand(what, i));
        same("ring", x.ring(what), m.ring(what));
        same("log", x.log(2 * i, what), m.log(2 * i, what));
        same("count", x.count(i), m.count(i));
    }

    private void compareAll() {
        for (int i = 0; i < x.count(13); i++) {
            for (int what = 0; what < 6; what++) {
                same("of(" + i + ", " + what + ")", x.of(i, what), m.of(i, what));
            }
            for (int k = 0; k < 12; k++) {
                same("item(" + i + ", " + k + ")", x.item(i, k), m.item(i, k));
            }
        }
        for (int t = 0; t < 6; t++) {
            for (int what = 0; what < 9; what++) {
                same("told(" + t + ", " + what + ")", x.told(t, what), m.told(t, what));
            }
            for (int r = 0; r < 6; r++) {
                same("register(" + t + ", " + r + ")", x.register(t, r), m.register(t, r));
                same("hand(" + t + ", " + r + ")", x.hand(t, r), m.hand(t, r));
            }
            statesSeen[x.told(t, 0)]++;
        }
        int length = 0;
        for (int k = 0; k < 7; k++) {
            same("ring(" + k + ")", x.ring(k), m.ring(k));
            length += x.ring(k) == MonitorTurns.NONE ? 0 : 1;
            same("trace(" + k + ")", x.trace(k), m.trace(k));
        }
        ringsSeen[length]++;
        for (int k = 0; k < 62; k++) {
            for (int what = 0; what < 3; what++) {
                same("log(" + k + ", " + what + ")", x.log(k, what), m.log(k, what));
            }
        }
        for (int what = -1; what < 18; what++) {
            same("count(" + what + ")", x.count(what), m.count(what));
        }
        for (int op = 0; op < 37; op++) {
            opsSeen[op] += m.opsBegun(op);
        }
    }
}
