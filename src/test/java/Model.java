import java.util.ArrayList;
import java.util.List;

/**
 * The document told a second time, in another way: kinds are Java classes, rows are Java arrays, what
 * the machine has against an act is what the Java machine throws, and those who are blocked or wait stand
 * in lists as they came. RandomRunsTest holds the class against it.
 */
final class Model {
    private static final int BAD = -1, STATE = -2, FULL = -3, NONE = -4, IDLE = -5, STUCK = -6, OVER = -7;

    private static final class Failure extends RuntimeException {
        private static final long serialVersionUID = 1L;
        final int kind;
        final int number;

        Failure(int kind, int number) {
            super(null, null, false, false);
            this.kind = kind;
            this.number = number;
        }
    }

    private static class Th {
        int no;
        Runner in;
        int depth;
        final List<Runner> blocked = new ArrayList<>();
        final List<Runner> waiting = new ArrayList<>();

        int weighs(List<Integer> trace) {
            trace.add(1);
            return 1;
        }
    }

    private interface Lent {
        int marks(List<Integer> trace);

        default int bare(List<Integer> trace) {
            trace.add(6);
            return marks(trace) + 1;
        }
    }

    private static class Box extends Th implements Lent {
        int count;
        int mark = 3;

        @Override
        int weighs(List<Integer> trace) {
            trace.add(2);
            return count + bare(trace);
        }

        @Override
        public int marks(List<Integer> trace) {
            trace.add(8);
            return mark;
        }
    }

    private static class Crate extends Box {
        int mark = 5;

        @Override
        int weighs(List<Integer> trace) {
            trace.add(3);
            return 2 * super.weighs(trace);
        }

        @Override
        public int marks(List<Integer> trace) {
            trace.add(9);
            return mark + ((Box) this).mark;
        }
    }

    private static class Chest extends Crate {
        @Override
        int weighs(List<Integer> trace) {
            trace.add(4);
            return super.weighs(trace) - 1;
        }

        @Override
        public int bare(List<Integer> trace) {
            trace.add(7);
            return 10 * marks(trace);
        }
    }

    private abstract static class Row extends Th {
        abstract int size();

        @Override
        int weighs(List<Integer> trace) {
            trace.add(5);
            return size();
        }
    }

    private abstract static class Numbers extends Row {
        abstract int get(int i);

        abstract void put(int i, int v);
    }

    private static final class Ints extends Numbers {
        final int[] row;

        Ints(int n) {
            row = new int[n];
        }

        @Override
        int size() {
            return row.length;
        }

        @Override
        int get(int i) {
            return row[i];
        }

        @Override
        void put(int i, int v) {
            row[i] = v;
        }
    }

    private static final class Bytes extends Numbers {
        final byte[] row;

        Bytes(int n) {
            row = new byte[n];
        }

        @Override
        int size() {
            return row.length;
        }

        @Override
        int get(int i) {
            return row[i];
        }

        @Override
        void put(int i, int v) {
            row[i] = (byte) v;
        }
    }

    private static final class Things extends Row {
        final Th[] row;

        Things(Th[] row) {
            this.row = row;
        }

        @Override
        int size() {
            return row.length;
        }
    }

    private static final class Runner {
        final int no;
        String is = "NONE";
        List<int[]> program;
        int rank;
        int place;
        int[] regs = new int[6];
        Th[] hands = new Th[6];
        List<int[]> handlers = new ArrayList<>();
        boolean flag;
        boolean failsBroken;
        int[] caught = {0, 0};
        int[] ended = {0, 0};
        Th thing;
        Runner joined;
        int until = NONE;
        int wants;
        int acts;

        Runner(int no) {
            this.no = no;
        }

        boolean underWay() {
            return !is.equals("NONE") && !is.equals("NEW") && !is.equals("ENDED");
        }

        void ready() {
            is = "READY";
            thing = null;
            joined = null;
            until = NONE;
        }
    }

    private final List<Th> things = new ArrayList<>();
    private final List<Integer> trace = new ArrayList<>();
    private final List<List<int[]>> programs = new ArrayList<>();
    private final Runner[] runners = new Runner[6];
    private final List<int[]> log = new ArrayList<>();
    private final int[] failures = new int[12];
    private final int[] opsBegun = new int[37];
    private int time, rule, order, met, acts;
    private int last = -1;

    Model() {
        for (int i = 0; i < 8; i++) {
            programs.add(new ArrayList<>());
        }
        for (int i = 0; i < 6; i++) {
            runners[i] = new Runner(i);
        }
    }

    /** Not of the document: how often acts with this op were begun, to see what the runs come to. */
    int opsBegun(int op) {
        return opsBegun[op];
    }

    private static boolean within(int v, int low, int high) {
        return low <= v && v <= high;
    }

    private Th add(int kind, int n) {
        Th t;
        switch (kind) {
            case 0: t = new Th(); break;
            case 1: t = new Box(); break;
            case 2: t = new Crate(); break;
            case 3: t = new Chest(); break;
            case 4: t = new Ints(n); break;
            case 5: t = new Bytes(n); break;
            case 6: t = new Things(new Th[n]); break;
            default: t = new Things(new Box[n]); break;
        }
        t.no = things.size();
        things.add(t);
        return t;
    }

    private static int kindOf(Th t) {
        if (t instanceof Things) {
            return ((Things) t).row instanceof Box[] ? 7 : 6;
        }
        Class<?>[] kinds = {Th.class, Box.class, Crate.class, Chest.class, Ints.class, Bytes.class};
        for (int k = 0; k < kinds.length; k++) {
            if (t.getClass() == kinds[k]) {
                return k;
            }
        }
        throw new AssertionError();
    }

    private boolean isThing(int no) {
        return within(no, 0, things.size() - 1);
    }

    int thing(int kind, int n) {
        if (!within(kind, 0, 7) || kind >= 4 && !within(n, 0, 12)) {
            return BAD;
        }
        return things.size() == 32 ? FULL : add(kind, n).no;
    }

    int of(int thing, int what) {
        if (!isThing(thing) || !within(what, 0, 5)) {
            return BAD;
        }
        Th t = things.get(thing);
        switch (what) {
            case 0: return kindOf(t);
            case 1: return t instanceof Box ? ((Box) t).count : t instanceof Row ? ((Row) t).size() : 0;
            case 2: return t.in == null ? NONE : t.in.no;
            case 3: return t.depth;
            case 4: return t.blocked.size();
            default: return t.waiting.size();
        }
    }

    int item(int row, int i) {
        if (!isThing(row) || !(things.get(row) instanceof Row) || !within(i, 0, ((Row) things.get(row)).size() - 1)) {
            return BAD;
        }
        Th t = things.get(row);
        if (t instanceof Numbers) {
            return ((Numbers) t).get(i);
        }
        Th stands = ((Things) t).row[i];
        return stands == null ? NONE : stands.no;
    }

    private int weighed(Th t) {
        List<Integer> left = new ArrayList<>();
        int w = t.weighs(left);
        trace.clear();
        trace.addAll(left);
        return w;
    }

    int weigh(int thing) {
        return isThing(thing) ? weighed(things.get(thing)) : BAD;
    }

    int trace(int i) {
        return within(i, 0, trace.size() - 1) ? trace.get(i) : NONE;
    }

    /** What the acts name: r register, h hand, p place, k kind, m mask, any other letter nothing. */
    private static final String[] NAMES = {"r", "rr", "rr", "rr", "rr", "rrr", "p", "pr", "hr", "hkr", "rhh", "hh",
        "rh", "hr", "rh", "rh", "rh", "rhr", "hrr", "hhr", "hrh", "hhr", "h", "h", "hr", "h", "h", "r", "r", "r",
        "r", "r", "r", "pm", "", "rr", ""};

    private static boolean named(char what, int v) {
        switch (what) {
            case 'p': return within(v, 0, 40);
            case 'k': return within(v, 0, 7);
            case 'm': return within(v, 0, 4095);
            default: return within(v, 0, 5);
        }
    }

    private boolean inUse(List<int[]> program) {
        for (Runner r : runners) {
            if (r.underWay() && r.program == program) {
                return true;
            }
        }
        return false;
    }

    int act(int p, int op, int a, int b, int c) {
        if (!within(p, 0, 7) || !within(op, 0, 36)) {
            return BAD;
        }
        int[] abc = {a, b, c};
        for (int i = 0; i < NAMES[op].length(); i++) {
            if (!named(NAMES[op].charAt(i), abc[i])) {
                return BAD;
            }
        }
        if (inUse(programs.get(p))) {
            return STATE;
        }
        if (programs.get(p).size() == 40) {
            return FULL;
        }
        programs.get(p).add(new int[] {op, a, b, c});
        return programs.get(p).size();
    }

    int wipe(int p) {
        if (!within(p, 0, 7)) {
            return BAD;
        }
        if (inUse(programs.get(p))) {
            return STATE;
        }
        int had = programs.get(p).size();
        programs.get(p).clear();
        return had;
    }

    int thread(int t, int p, int rank) {
        if (!within(t, 0, 5) || !within(p, 0, 7) || !within(rank, 0, 9)) {
            return BAD;
        }
        if (runners[t].underWay()) {
            return STATE;
        }
        runners[t] = new Runner(t);
        runners[t].is = "NEW";
        runners[t].program = programs.get(p);
        runners[t].rank = rank;
        return 1;
    }

    private boolean isMade(int t) {
        return within(t, 0, 5) && !runners[t].is.equals("NONE");
    }

    int set(int t, int r, int v) {
        if (!isMade(t) || !within(r, 0, 5)) {
            return BAD;
        }
        runners[t].regs[r] = v;
        return 1;
    }

    int give(int t, int h, int thing) {
        if (!isMade(t) || !within(h, 0, 5) || thing != NONE && !isThing(thing)) {
            return BAD;
        }
        runners[t].hands[h] = thing == NONE ? null : things.get(thing);
        return 1;
    }

    int start(int t) {
        if (!within(t, 0, 5)) {
            return BAD;
        }
        if (!runners[t].is.equals("NEW")) {
            return STATE;
        }
        runners[t].ready();
        return 1;
    }

    int broken(int t) {
        if (!within(t, 0, 5)) {
            return BAD;
        }
        int answer = runners[t].underWay() ? 1 : 0;
        breakIt(runners[t]);
        return answer;
    }

    int rule(int r) {
        if (!within(r, 0, 1)) {
            return BAD;
        }
        int was = rule;
        rule = r;
        return was;
    }

    int order(int o) {
        if (!within(o, 0, 2)) {
            return BAD;
        }
        int was = order;
        order = o;
        return was;
    }

    int turn() {
        if (count(12) >= 3000) {
            return FULL;
        }
        int none = halted();
        return none != 0 ? none : oneTurn();
    }

    int run(int n) {
        if (!within(n, 1, 60)) {
            return BAD;
        }
        if (count(12) >= 3000) {
            return FULL;
        }
        for (int i = 0; i < n; i++) {
            if (halted() != 0) {
                return i;
            }
            oneTurn();
        }
        return n;
    }

    private int halted() {
        boolean some = false;
        for (Runner r : runners) {
            if (r.is.equals("READY") || r.is.equals("SLEEPING") || r.is.equals("WAITING") && r.until != NONE) {
                return 0;
            }
            some |= r.underWay();
        }
        return some ? STUCK : OVER;
    }

    private Runner next(List<Runner> those) {
        if (those.isEmpty()) {
            return null;
        }
        if (order == 0) {
            return those.get(0);
        }
        if (order == 1) {
            return those.get(those.size() - 1);
        }
        Runner least = those.get(0);
        for (Runner r : those) {
            least = r.no < least.no ? r : least;
        }
        return least;
    }

    private void toGetIn(Runner r, Th t, int depth) {
        t.waiting.remove(r);
        if (t.in == null) {
            t.in = r;
            t.depth = depth;
            r.ready();
        } else {
            r.is = "BLOCKED";
            r.thing = t;
            r.until = NONE;
            r.wants = depth;
            t.blocked.add(r);
        }
    }

    private void left(Th t) {
        t.in = null;
        t.depth = 0;
        Runner r = next(t.blocked);
        if (r != null) {
            t.blocked.remove(r);
            toGetIn(r, t, r.wants);
        }
    }

    private void breakIt(Runner r) {
        switch (r.is) {
            case "SLEEPING":
            case "JOINING":
                r.ready();
                r.failsBroken = true;
                break;
            case "WAITING":
                toGetIn(r, r.thing, r.wants);
                r.failsBroken = true;
                break;
            case "READY":
            case "BLOCKED":
                r.flag = true;
                break;
            default:
                break;
        }
    }

    private void ends(Runner r, int kind, int number) {
        r.is = "ENDED";
        r.ended = new int[] {kind, number};
        for (Th t : things) {
            if (t.in == r) {
                left(t);
            }
        }
        for (Runner other : runners) {
            if (other.is.equals("JOINING") && other.joined == r) {
                other.ready();
            }
        }
    }

    private Runner chosen() {
        Runner best = null;
        for (int i = 1; i <= 6; i++) {
            Runner r = runners[rule == 0 ? (last + i) % 6 : i - 1];
            if (r.is.equals("READY") && (best == null || rule == 1 && r.rank > best.rank)) {
                best = r;
            }
        }
        return best;
    }

    private int oneTurn() {
        time++;
        for (Runner r : runners) {
            if (r.is.equals("SLEEPING") && r.until == time) {
                r.ready();
            } else if (r.is.equals("WAITING") && r.until == time) {
                toGetIn(r, r.thing, r.wants);
            }
        }
        Runner r = chosen();
        if (r == null) {
            return IDLE;
        }
        last = r.no;
        int[] entry = {r.no, r.place, 0};
        log.add(entry);
        try {
            if (r.failsBroken) {
                r.failsBroken = false;
                throw new Failure(9, 0);
            }
            if (r.place < r.program.size()) {
                acts++;
                r.acts++;
                int[] act = r.program.get(r.place);
                opsBegun[act[0]]++;
                int jumped = does(r, act[0], act[1], act[2], act[3]);
                r.place = jumped >= 0 ? Math.min(jumped, r.program.size()) : r.place + 1;
            }
        } catch (Failure f) {
            entry[2] = f.kind;
            fails(r, f);
        }
        if (r.is.equals("READY") && r.place == r.program.size()) {
            ends(r, 0, 0);
        }
        return r.no;
    }

    private void fails(Runner r, Failure f) {
        failures[f.kind]++;
        for (int i = r.handlers.size() - 1; i >= 0; i--) {
            int[] handler = r.handlers.get(i);
            if ((handler[1] & 1 << f.kind) != 0) {
                r.handlers.subList(i, r.handlers.size()).clear();
                r.place = Math.min(handler[0], r.program.size());
                r.caught = new int[] {f.kind, f.number};
                met++;
                return;
            }
        }
        ends(r, f.kind, f.number);
    }

    /** An act: the place to which it jumps, or -1; the Java machine's throws become failures. */
    private int does(Runner r, int op, int a, int b, int c) {
        try {
            if (op == 6) {
                return a;
            }
            if (op == 7) {
                return r.regs[b] == 0 ? a : -1;
            }
            if (op < 22) {
                plain(r, op, a, b, c);
            } else {
                turns(r, op, a, b);
            }
            return -1;
        } catch (NullPointerException e) {
            throw new Failure(1, 0);
        } catch (IndexOutOfBoundsException e) {
            throw new Failure(2, 0);
        } catch (ClassCastException e) {
            throw new Failure(3, 0);
        } catch (ArrayStoreException e) {
            throw new Failure(4, 0);
        } catch (NegativeArraySizeException e) {
            throw new Failure(5, 0);
        } catch (ArithmeticException e) {
            throw new Failure(6, 0);
        }
    }

    private void plain(Runner r, int op, int a, int b, int c) {
        int[] regs = r.regs;
        Th[] hands = r.hands;
        switch (op) {
            case 0: regs[a] = b; break;
            case 1: regs[a] += regs[b]; break;
            case 2: regs[a] -= regs[b]; break;
            case 3: regs[a] *= regs[b]; break;
            case 4: regs[a] /= regs[b]; break;
            case 5: regs[a] = regs[b] < regs[c] ? 1 : 0; break;
            case 8: hands[a] = regs[b] == -1 ? null : things.get(regs[b]); break;
            case 9:
                if (things.size() == 32 || b >= 4 && regs[c] > 12) {
                    throw new Failure(11, 0);
                }
                hands[a] = add(b, regs[c]);
                break;
            case 10: regs[a] = hands[b] == hands[c] ? 1 : 0; break;
            case 11: hands[a] = hands[b]; break;
            case 12: regs[a] = ((Box) hands[b]).count; break;
            case 13: ((Box) hands[a]).count += regs[b]; break;
            case 14: regs[a] = weighed(hands[b]); break;
            case 15: regs[a] = ((Crate) hands[b]).mark; break;
            case 16: regs[a] = ((Row) hands[b]).size(); break;
            case 17: regs[a] = ((Numbers) hands[b]).get(regs[c]); break;
            case 18: ((Numbers) hands[a]).put(regs[b], regs[c]); break;
            case 19: hands[a] = ((Things) hands[b]).row[regs[c]]; break;
            case 20: ((Things) hands[a]).row[regs[b]] = hands[c]; break;
            default: copy((Row) hands[a], (Row) hands[b], regs[c]); break;
        }
    }

    private static void copy(Row from, Row to, int first) {
        int size = from.size();
        to.size();
        for (int i = 0; i < size; i++) {
            if (!within(first + i, 0, to.size() - 1)) {
                throw new IndexOutOfBoundsException();
            }
            boolean numbers = from instanceof Numbers;
            if (numbers != to instanceof Numbers || from instanceof Ints && to instanceof Bytes) {
                throw new ArrayStoreException();
            }
            if (numbers) {
                ((Numbers) to).put(first + i, ((Numbers) from).get(i));
            } else {
                ((Things) to).row[first + i] = ((Things) from).row[i];
            }
        }
    }

    private void brokenIfFlagged(Runner r) {
        if (r.flag) {
            r.flag = false;
            throw new Failure(9, 0);
        }
    }

    private Th own(Runner r, int h) {
        Th t = r.hands[h];
        if (t.in != r) {
            throw new Failure(8, 0);
        }
        return t;
    }

    private void turns(Runner r, int op, int a, int b) {
        switch (op) {
            case 22:
                if (r.hands[a].in == r) {
                    r.hands[a].depth++;
                } else {
                    toGetIn(r, r.hands[a], 1);
                }
                break;
            case 23:
                if (--own(r, a).depth == 0) {
                    left(own(r, a));
                }
                break;
            case 24: waits(r, own(r, a), r.regs[b]); break;
            case 25:
                Runner told = next(own(r, a).waiting);
                if (told != null) {
                    toGetIn(told, r.hands[a], told.wants);
                }
                break;
            case 26:
                List<Runner> all = new ArrayList<>(own(r, a).waiting);
                for (Runner each : runners) {
                    if (all.contains(each)) {
                        toGetIn(each, r.hands[a], each.wants);
                    }
                }
                break;
            case 27:
                brokenIfFlagged(r);
                if (r.regs[a] > 0) {
                    r.is = "SLEEPING";
                    r.until = time + Math.min(r.regs[a], 1000000);
                }
                break;
            case 28: joins(r, runners[r.regs[a]]); break;
            case 29:
                if (!runners[r.regs[a]].is.equals("NEW")) {
                    throw new Failure(10, 0);
                }
                runners[r.regs[a]].ready();
                break;
            case 30: breakIt(runners[r.regs[a]]); break;
            default: handles(r, op, a, b); break;
        }
    }

    private void waits(Runner r, Th t, int stay) {
        brokenIfFlagged(r);
        r.wants = t.depth;
        r.is = "WAITING";
        r.thing = t;
        r.until = stay > 0 ? time + Math.min(stay, 1000000) : NONE;
        t.waiting.add(r);
        left(t);
    }

    private void joins(Runner r, Runner other) {
        if (other.underWay()) {
            brokenIfFlagged(r);
            r.is = "JOINING";
            r.joined = other;
        }
    }

    private void handles(Runner r, int op, int a, int b) {
        switch (op) {
            case 31:
                r.regs[a] = r.flag ? 1 : 0;
                r.flag = false;
                break;
            case 32: throw new Failure(7, r.regs[a]);
            case 33:
                if (r.handlers.size() == 8) {
                    throw new Failure(11, 0);
                }
                r.handlers.add(new int[] {a, b});
                break;
            case 34:
                if (!r.handlers.isEmpty()) {
                    r.handlers.remove(r.handlers.size() - 1);
                }
                break;
            case 35:
                r.regs[a] = r.caught[0];
                r.regs[b] = r.caught[1];
                break;
            default: break;
        }
    }

    int told(int t, int what) {
        if (!within(t, 0, 5) || !within(what, 0, 8)) {
            return BAD;
        }
        Runner r = runners[t];
        switch (what) {
            case 0: return List.of("NONE", "NEW", "READY", "BLOCKED", "WAITING", "SLEEPING", "JOINING", "ENDED").indexOf(r.is);
            case 1: return r.place;
            case 2: return r.ended[0];
            case 3: return r.ended[1];
            case 4: return r.flag ? 1 : 0;
            case 5: return r.thing != null ? r.thing.no : r.joined != null ? r.joined.no : NONE;
            case 6: return r.until;
            case 7: return r.handlers.size();
            default: return r.acts;
        }
    }

    int register(int t, int r) {
        return within(t, 0, 5) && within(r, 0, 5) ? runners[t].regs[r] : BAD;
    }

    int hand(int t, int h) {
        if (!within(t, 0, 5) || !within(h, 0, 5)) {
            return BAD;
        }
        return runners[t].hands[h] == null ? NONE : runners[t].hands[h].no;
    }

    private Runner on(Runner r) {
        return r.is.equals("BLOCKED") ? r.thing.in : r.is.equals("JOINING") ? r.joined : null;
    }

    int ring(int k) {
        if (k < 0) {
            return BAD;
        }
        for (Runner r : runners) {
            List<Runner> way = new ArrayList<>();
            for (Runner at = r; at != null && !way.contains(at); at = on(at)) {
                way.add(at);
            }
            if (on(way.get(way.size() - 1)) == r) {
                return k < way.size() ? way.get(k).no : NONE;
            }
        }
        return NONE;
    }

    int log(int k, int what) {
        if (k < 0 || !within(what, 0, 2)) {
            return BAD;
        }
        return k < 60 && k < log.size() ? log.get(log.size() - 1 - k)[what] : NONE;
    }

    int count(int what) {
        if (within(what, 1, 11)) {
            return failures[what];
        }
        switch (what) {
            case 0: return time;
            case 12:
                int all = 0;
                for (int f : failures) {
                    all += f;
                }
                return all;
            case 13: return things.size();
            case 14:
                int under = 0;
                for (Runner r : runners) {
                    under += r.underWay() ? 1 : 0;
                }
                return under;
            case 15: return acts;
            case 16: return met;
            default: return BAD;
        }
    }
}
