/** Part 1 of the terms and promises 2 to 6: a test for each sentence that names an edge. */
public final class EdgesOfThingsTest extends Scenes {
    private static final Due DUE = new Due("EdgesOfThingsTest");
    private static final int[] NO_ROWS = {PLAIN, BOX, CRATE, CHEST};
    private static final int[] ROWS = {INTS, BYTES, THINGS, BOXES};
    private static final int[] BOX_KINDS = {BOX, CRATE, CHEST};

    public static void main(String[] args) {
        numbersOfThings();
        kindsOfThings();
        placesAreTooFewOrTooMany();
        placesOfWhatIsNoRow();
        noMoreThings();
        badAheadOfFull();
        countAtFirst();
        countWraps();
        countIsOne();
        marks();
        rowsAtFirst();
        bytesKeepTheirBits();
        weightOfPlain();
        weightsOfBoxes();
        weightsWrap();
        weightsOfRows();
        ofKind();
        ofCount();
        ofWhoIsIn();
        ofDepth();
        ofHowManyAreBlocked();
        ofHowManyWait();
        ofIsBad();
        itemOfNumbers();
        itemOfThings();
        itemOfWhatIsNoRow();
        itemWithoutPlace();
        weighIsBad();
        traceIsEmptyAtFirst();
        tracesOfKinds();
        traceIsEmptyAheadOfEach();
        traceStaysAtNull();
        traceStaysAtBad();
        traceBeyondItsEnds();
        DUE.close();
    }

    // ---- THINGS, KINDS, and promise 2: thing

    private static void numbersOfThings() {
        DUE.sentence("THINGS 0 .. 31, as they are made.");
        MonitorTurns x = new MonitorTurns();
        for (int i = 0; i < 15; i++) {
            DUE.is("thing() number " + i, x.thing(i % 8, i % 13), i);
        }
        did(x, row(), row(), op(NEW, 0, BOX, 0), op(NEW, 1, INTS, 0));
        DUE.is("hand(0, 0), made by NEW", x.hand(0, 0), 15);
        DUE.is("hand(0, 1), made by NEW", x.hand(0, 1), 16);
        for (int i = 17; i < 32; i++) {
            DUE.is("thing() number " + i, x.thing(i % 8, i % 13), i);
        }
        DUE.is("count(13)", x.count(13), 32);
    }

    private static void kindsOfThings() {
        DUE.sentence("A new THING: its number. BAD: kind");
        MonitorTurns x = new MonitorTurns();
        for (int kind : row(-1, 8, LEAST, MOST, NONE)) {
            DUE.is("thing(" + kind + ", 3)", x.thing(kind, 3), BAD);
        }
        DUE.is("count(13)", x.count(13), 0);
        DUE.is("thing(0, 3), the least KIND", x.thing(0, 3), 0);
        DUE.is("thing(7, 3), the greatest", x.thing(7, 3), 1);
    }

    private static void placesAreTooFewOrTooMany() {
        DUE.sentence("n of a ROW is not 0 .. 12");
        for (int kind : ROWS) {
            MonitorTurns x = new MonitorTurns();
            for (int n : row(-1, 13, LEAST, MOST)) {
                DUE.is("thing(" + kind + ", " + n + ")", x.thing(kind, n), BAD);
            }
            DUE.is("count(13)", x.count(13), 0);
            for (int n = 0; n <= 12; n++) {
                DUE.is("thing(" + kind + ", " + n + ")", x.thing(kind, n), n);
                DUE.is("of(" + n + ", 1)", x.of(n, 1), n);
            }
        }
    }

    private static void placesOfWhatIsNoRow() {
        DUE.sentence("n of a ROW (of what is no ROW n is not looked at)");
        for (int kind : NO_ROWS) {
            MonitorTurns x = new MonitorTurns();
            int made = 0;
            for (int n : row(-1, 13, LEAST, MOST, 0, 12)) {
                DUE.is("thing(" + kind + ", " + n + ")", x.thing(kind, n), made);
                DUE.is("of(" + made + ", 1)", x.of(made, 1), 0);
                made++;
            }
        }
    }

    private static MonitorTurns full() {
        MonitorTurns x = new MonitorTurns();
        for (int i = 0; i < 32; i++) {
            x.thing(BOX, 0);
        }
        return x;
    }

    private static void noMoreThings() {
        DUE.sentence("FULL (32 THINGS)");
        MonitorTurns x = full();
        for (int kind = PLAIN; kind <= BOXES; kind++) {
            DUE.is("thing(" + kind + ", 0), the 33rd", x.thing(kind, 0), FULL);
        }
        DUE.is("count(13)", x.count(13), 32);
        DUE.is("of(31, 0)", x.of(31, 0), BOX);
        DUE.is("of(32, 0)", x.of(32, 0), BAD);
        x = new MonitorTurns();
        for (int i = 0; i < 31; i++) {
            x.thing(PLAIN, 0);
        }
        DUE.is("thing(0, 0), the 32nd", x.thing(PLAIN, 0), 31);
    }

    private static void badAheadOfFull() {
        DUE.sentence("Calls answer, the first of these that fits (thing: BAD, FULL)");
        MonitorTurns x = full();
        DUE.is("thing(8, 0)", x.thing(8, 0), BAD);
        DUE.is("thing(-1, 0)", x.thing(-1, 0), BAD);
        for (int kind : ROWS) {
            DUE.is("thing(" + kind + ", 13)", x.thing(kind, 13), BAD);
            DUE.is("thing(" + kind + ", -1)", x.thing(kind, -1), BAD);
        }
    }

    // ---- COUNT, MARKS, PLACES

    private static void countAtFirst() {
        DUE.sentence("A BOX has a COUNT (an int, 0 at first");
        for (int kind : BOX_KINDS) {
            MonitorTurns x = did(shelf(), row(kind), row(77), op(COUNT, 0, 0), op(NEW, 1, kind, 5), op(COUNT, 1, 1));
            DUE.is("COUNT of a thing() of KIND " + kind, x.register(0, 0), 0);
            DUE.is("COUNT of a NEW one of KIND " + kind, x.register(0, 1), 0);
            DUE.is("of(.., 1) of the NEW one", x.of(SHELF, 1), 0);
        }
    }

    private static void countWraps() {
        DUE.sentence("all ints wrap (COUNT)");
        for (int kind : BOX_KINDS) {
            MonitorTurns x = did(shelf(), row(kind), row(MOST, 1, -1), op(BUMP, 0, 0), op(BUMP, 0, 1));
            DUE.is("of(.., 1) behind MOST and 1", x.of(kind, 1), LEAST);
            x = did(shelf(), row(kind), row(LEAST, 1, -1), op(BUMP, 0, 0), op(BUMP, 0, 2), op(COUNT, 3, 0));
            DUE.is("of(.., 1) behind LEAST less 1", x.of(kind, 1), MOST);
            DUE.is("COUNT behind LEAST less 1", x.register(0, 3), MOST);
            x = did(shelf(), row(kind), row(LEAST), op(BUMP, 0, 0), op(BUMP, 0, 0));
            DUE.is("of(.., 1) behind LEAST and LEAST", x.of(kind, 1), 0);
        }
    }

    private static void countIsOne() {
        DUE.sentence("a CRATE, a CHEST .. both COUNT as one");
        for (int kind : row(CRATE, CHEST)) {
            MonitorTurns x = did(shelf(), row(kind), row(6), op(BUMP, 0, 0), op(BUMP, 0, 0), op(COUNT, 1, 0));
            DUE.is("COUNT as a BOX", x.register(0, 1), 12);
            DUE.is("of(.., 1)", x.of(kind, 1), 12);
            DUE.is("weigh(..)", x.weigh(kind), kind == CRATE ? 42 : 183);
            DUE.is("another one's", x.of(BOX, 1), 0);
        }
    }

    private static void marks() {
        DUE.sentence("and a MARK, 3; a CRATE, a CHEST a second MARK of its own, 5");
        for (int kind : row(CRATE, CHEST)) {
            DUE.is("the own MARK", did(shelf(), row(kind), row(), op(MARK, 0, 0)).register(0, 0), 5);
        }
        DUE.is("a BOX without a COUNT weighs its MARK and 1", shelf().weigh(BOX), 4);
        DUE.is("a CRATE twice both and 1", shelf().weigh(CRATE), 18);
    }

    private static void rowsAtFirst() {
        DUE.sentence("A ROW has 0 .. 12 PLACES, 0 or NOTHING at first");
        for (int kind : ROWS) {
            int want = kind >= THINGS ? NONE : 0;
            MonitorTurns x = new MonitorTurns();
            x.thing(kind, 12);
            x.thing(kind, 0);
            did(x, row(), row(12, 0), op(NEW, 0, kind, 0), op(NEW, 1, kind, 1));
            for (int i = 0; i < 12; i++) {
                DUE.is("item(0, " + i + ")", x.item(0, i), want);
                DUE.is("item(2, " + i + "), made by NEW", x.item(2, i), want);
            }
            DUE.is("of(1, 1)", x.of(1, 1), 0);
            DUE.is("of(3, 1), made by NEW", x.of(3, 1), 0);
            DUE.is("item(1, 0)", x.item(1, 0), BAD);
            DUE.is("item(3, 0), made by NEW", x.item(3, 0), BAD);
            DUE.is("item(0, 12)", x.item(0, 12), BAD);
        }
    }

    private static void bytesKeepTheirBits() {
        DUE.sentence("one of bytes keeps the lowest 8 bits, with their sign");
        int[] values = {0, 1, 127, 128, 129, 255, 256, 257, -1, -128, -129, -256, LEAST, MOST};
        int[] kept = {0, 1, 127, -128, -127, -1, 0, 1, -1, -128, 127, 0, 0, -1};
        for (int i = 0; i < values.length; i++) {
            MonitorTurns x = did(shelf(), row(BYTES, INTS), row(2, values[i]), op(WRITE, 0, 0, 1), op(READ, 3, 0, 0),
                    op(WRITE, 1, 0, 1), op(READ, 4, 1, 0));
            DUE.is("item() of " + values[i], x.item(BYTES, 2), kept[i]);
            DUE.is("READ of " + values[i], x.register(0, 3), kept[i]);
            DUE.is("a ROW of ints keeps " + values[i], x.item(INTS, 2), values[i]);
            DUE.is("READ of it", x.register(0, 4), values[i]);
        }
    }

    // ---- WEIGH

    private static void weightOfPlain() {
        DUE.sentence("of PLAIN [1]: 1");
        DUE.is("weigh(0)", shelf().weigh(PLAIN), 1);
        DUE.is("WEIGH", did(shelf(), row(PLAIN), row(), op(WEIGH, 3, 0)).register(0, 3), 1);
    }

    private static int weightAt(int kind, int count) {
        MonitorTurns x = did(shelf(), row(kind), row(count), op(BUMP, 0, 0), op(WEIGH, 1, 0));
        int weight = x.weigh(kind);
        DUE.is("WEIGH as weigh(), KIND " + kind + " COUNT " + count, x.register(0, 1), weight);
        return weight;
    }

    private static void weightsOfBoxes() {
        DUE.sentence("of BOX [2]: COUNT and what BARE gives; of CRATE [3]: twice ..; of CHEST [4]: .. less 1");
        DUE.is("BOX at 0", weightAt(BOX, 0), 4);
        DUE.is("BOX at -4", weightAt(BOX, -4), 0);
        DUE.is("BOX at 100", weightAt(BOX, 100), 104);
        DUE.is("CRATE at 0", weightAt(CRATE, 0), 18);
        DUE.is("CRATE at -9", weightAt(CRATE, -9), 0);
        DUE.is("CRATE at 100", weightAt(CRATE, 100), 218);
        DUE.is("CHEST at 0", weightAt(CHEST, 0), 159);
        DUE.is("CHEST at -80", weightAt(CHEST, -80), -1);
        DUE.is("CHEST at 100", weightAt(CHEST, 100), 359);
    }

    private static void weightsWrap() {
        DUE.sentence("all ints wrap (WEIGH)");
        DUE.is("BOX at MOST", weightAt(BOX, MOST), LEAST + 3);
        DUE.is("BOX at MOST - 4", weightAt(BOX, MOST - 4), MOST);
        DUE.is("BOX at LEAST", weightAt(BOX, LEAST), LEAST + 4);
        DUE.is("CRATE at MOST", weightAt(CRATE, MOST), 16);
        DUE.is("CRATE at 2 to the 30 less 9", weightAt(CRATE, 1073741815), LEAST);
        DUE.is("CRATE at LEAST", weightAt(CRATE, LEAST), 18);
        DUE.is("CHEST at MOST", weightAt(CHEST, MOST), 157);
        DUE.is("CHEST at 2 to the 30 less 80", weightAt(CHEST, 1073741744), MOST);
        DUE.is("CHEST at LEAST", weightAt(CHEST, LEAST), 159);
    }

    private static void weightsOfRows() {
        DUE.sentence("of ROWS [5]: how many PLACES");
        for (int kind : ROWS) {
            for (int n : row(0, 1, 12)) {
                MonitorTurns x = new MonitorTurns();
                x.thing(kind, n);
                DUE.is("weigh() of " + n + " PLACES", x.weigh(0), n);
                did(x, row(0), row(99), op(WEIGH, 0, 0));
                DUE.is("WEIGH of " + n + " PLACES", x.register(0, 0), n);
            }
        }
    }

    // ---- promise 3: of

    private static void ofKind() {
        DUE.sentence("Of a THING: 0 its KIND");
        MonitorTurns x = shelf();
        for (int kind = PLAIN; kind <= BOXES; kind++) {
            DUE.is("of(" + kind + ", 0)", x.of(kind, 0), kind);
        }
    }

    private static void ofCount() {
        DUE.sentence("1 COUNT of a BOX, how many PLACES of a ROW (else 0)");
        MonitorTurns x = did(shelf(), row(BOX, CRATE, CHEST), row(-1, MOST, LEAST), op(BUMP, 0, 0), op(BUMP, 1, 1),
                op(BUMP, 2, 2));
        DUE.is("of() of PLAIN", x.of(PLAIN, 1), 0);
        DUE.is("of() of a BOX", x.of(BOX, 1), -1);
        DUE.is("of() of a CRATE", x.of(CRATE, 1), MOST);
        DUE.is("of() of a CHEST", x.of(CHEST, 1), LEAST);
        for (int kind : ROWS) {
            DUE.is("of() of a ROW", x.of(kind, 1), 3);
        }
    }

    private static void ofWhoIsIn() {
        DUE.sentence("2 the THREAD that is in it (NONE)");
        for (int t : row(0, 5)) {
            MonitorTurns x = shelf();
            go(x, t, row(PLAIN), row(), op(ENTER, 0), op(REST), op(LEAVE, 0), op(REST));
            DUE.is("of(0, 2) ahead", x.of(PLAIN, 2), NONE);
            x.turn();
            DUE.is("of(0, 2)", x.of(PLAIN, 2), t);
            DUE.is("of another one", x.of(BOX, 2), NONE);
            x.run(2);
            DUE.is("of(0, 2) behind", x.of(PLAIN, 2), NONE);
        }
    }

    private static void ofDepth() {
        DUE.sentence("3 the DEPTH");
        MonitorTurns x = shelf();
        go(x, 0, row(PLAIN), row(), op(ENTER, 0), op(ENTER, 0), op(LEAVE, 0), op(LEAVE, 0), op(REST));
        int[] depths = {0, 1, 2, 1, 0};
        for (int depth : depths) {
            DUE.is("of(0, 3)", x.of(PLAIN, 3), depth);
            DUE.is("of another one", x.of(BOX, 3), 0);
            x.turn();
        }
    }

    /** Six threads that enter thing 1 and then do one act more. */
    private static MonitorTurns six(int[] then) {
        MonitorTurns x = shelf();
        for (int t = 0; t < 6; t++) {
            go(x, t, row(PLAIN, BOX), row(), op(ENTER, 1), then, op(REST));
        }
        return x;
    }

    private static void ofHowManyAreBlocked() {
        DUE.sentence("4 how many are BLOCKED by it");
        MonitorTurns x = six(op(SLEEP, 0));
        for (int i = 0; i < 6; i++) {
            DUE.is("of(1, 4)", x.of(BOX, 4), Math.max(i - 1, 0));
            x.turn();
        }
        DUE.is("of(1, 4): all but one", x.of(BOX, 4), 5);
        DUE.is("of(1, 5)", x.of(BOX, 5), 0);
        DUE.is("of(0, 4)", x.of(PLAIN, 4), 0);
    }

    private static void ofHowManyWait() {
        DUE.sentence("5 WAITING on it");
        MonitorTurns x = six(op(WAIT, 1, 0));
        DUE.is("of(1, 5)", x.of(BOX, 5), 0);
        DUE.is("run(60)", x.run(60), 12);
        DUE.is("of(1, 5): all of them", x.of(BOX, 5), 6);
        DUE.is("of(1, 4)", x.of(BOX, 4), 0);
        DUE.is("of(0, 5)", x.of(PLAIN, 5), 0);
    }

    private static void ofIsBad() {
        DUE.sentence("5 WAITING on it. BAD.");
        MonitorTurns x = shelf();
        for (int thing : row(-1, SHELF, 31, 32, LEAST, MOST, NONE)) {
            for (int what = 0; what < 6; what++) {
                DUE.is("of(" + thing + ", " + what + ")", x.of(thing, what), BAD);
            }
        }
        for (int what : row(-1, 6, LEAST, MOST)) {
            for (int thing = 0; thing < SHELF; thing++) {
                DUE.is("of(" + thing + ", " + what + ")", x.of(thing, what), BAD);
            }
        }
        DUE.is("of(0, 0) without THINGS", new MonitorTurns().of(0, 0), BAD);
    }

    // ---- promise 4: item

    private static void itemOfNumbers() {
        DUE.sentence("What stands at a PLACE of a ROW: a number");
        MonitorTurns x = did(shelf(), row(INTS, BYTES), row(0, 2, LEAST, MOST), op(WRITE, 0, 0, 2), op(WRITE, 0, 1, 3),
                op(WRITE, 1, 0, 1), op(WRITE, 1, 1, 3));
        int[] ints = {LEAST, 0, MOST};
        int[] bytes = {2, 0, -1};
        for (int i = 0; i < 3; i++) {
            DUE.is("item() of ints", x.item(INTS, i), ints[i]);
            DUE.is("item() of bytes", x.item(BYTES, i), bytes[i]);
        }
    }

    private static void itemOfThings() {
        DUE.sentence("a THING's number, NONE");
        MonitorTurns x = did(shelf(), row(THINGS, BOXES, PLAIN, SECOND_BOX), row(0, 2), op(PUT, 0, 0, 2),
                op(PUT, 0, 1, 3), op(PUT, 1, 1, 3));
        int[] things = {PLAIN, NONE, SECOND_BOX};
        int[] boxes = {NONE, NONE, SECOND_BOX};
        for (int i = 0; i < 3; i++) {
            DUE.is("item() of THINGS", x.item(THINGS, i), things[i]);
            DUE.is("item() of BOXES", x.item(BOXES, i), boxes[i]);
        }
    }

    private static void itemOfWhatIsNoRow() {
        DUE.sentence("BAD: no ROW");
        MonitorTurns x = shelf();
        for (int thing : row(PLAIN, BOX, CRATE, CHEST, SECOND_BOX, SHELF, 32, -1, NONE, LEAST, MOST)) {
            DUE.is("item(" + thing + ", 0)", x.item(thing, 0), BAD);
        }
    }

    private static void itemWithoutPlace() {
        DUE.sentence("no such PLACE");
        for (int kind : ROWS) {
            for (int n : row(0, 1, 12)) {
                MonitorTurns x = new MonitorTurns();
                x.thing(kind, n);
                for (int i : row(-1, n, n + 1, LEAST, MOST)) {
                    DUE.is("item(0, " + i + ") of " + n, x.item(0, i), BAD);
                }
            }
        }
    }

    // ---- promises 5, 6: weigh, trace

    private static void weighIsBad() {
        DUE.sentence("What a THING WEIGHS. BAD.");
        MonitorTurns x = shelf();
        for (int thing : row(-1, SHELF, 31, 32, NONE, LEAST, MOST)) {
            DUE.is("weigh(" + thing + ")", x.weigh(thing), BAD);
        }
        DUE.is("weigh(8), the last one", x.weigh(SECOND_BOX), 4);
        DUE.is("weigh(0) without THINGS", new MonitorTurns().weigh(0), BAD);
    }

    private static void traceIs(MonitorTurns x, String when, int... want) {
        for (int i = 0; i < want.length; i++) {
            DUE.is("trace(" + i + ") " + when, x.trace(i), want[i]);
        }
        DUE.is("trace() behind the last one " + when, x.trace(want.length), NONE);
    }

    private static void traceIsEmptyAtFirst() {
        DUE.sentence("Nothing is there (THE TRACE)");
        traceIs(new MonitorTurns(), "at first");
        traceIs(shelf(), "with THINGS that were not weighed");
    }

    private static final int[][] TRACES = {{1}, {2, 6, 8}, {3, 2, 6, 9}, {4, 3, 2, 7, 9}, {5}, {5}, {5}, {5}};

    private static void tracesOfKinds() {
        DUE.sentence("BODIES, each of which leaves its number in THE TRACE as it begins (So CHEST: 4, 3, 2, 7, 9.)");
        for (int kind = PLAIN; kind <= BOXES; kind++) {
            MonitorTurns x = shelf();
            x.weigh(kind);
            traceIs(x, "behind weigh(" + kind + ")", TRACES[kind]);
            traceIs(did(shelf(), row(kind), row(), op(WEIGH, 0, 0)), "behind a WEIGH of " + kind, TRACES[kind]);
        }
    }

    private static void traceIsEmptyAheadOfEach() {
        DUE.sentence("THE TRACE, which is empty ahead of each WEIGH, weigh()");
        MonitorTurns x = shelf();
        for (int kind : row(CHEST, CRATE, CRATE, BOX, PLAIN, BOXES, BOX)) {
            x.weigh(kind);
            traceIs(x, "behind weigh(" + kind + ")", TRACES[kind]);
        }
        x = shelf();
        x.weigh(CHEST);
        did(x, row(PLAIN), row(), op(WEIGH, 0, 0));
        traceIs(x, "behind a WEIGH of PLAIN", 1);
    }

    private static void traceStaysAtNull() {
        DUE.sentence("(not one that meets NULL)");
        MonitorTurns x = did(shelf(), row(CRATE), row(), op(WEIGH, 0, 0), op(WEIGH, 0, 1));
        DUE.is("told(0, 2)", x.told(0, 2), F_NULL);
        traceIs(x, "behind a WEIGH of NOTHING", 3, 2, 6, 9);
    }

    private static void traceStaysAtBad() {
        DUE.sentence("weigh() that is not BAD");
        MonitorTurns x = shelf();
        x.weigh(-1);
        traceIs(x, "behind a BAD weigh() alone");
        x.weigh(CHEST);
        for (int bad : row(-1, SHELF, LEAST, MOST)) {
            x.weigh(bad);
            traceIs(x, "behind weigh(" + bad + ")", 4, 3, 2, 7, 9);
        }
    }

    private static void traceBeyondItsEnds() {
        DUE.sentence("Number i of THE TRACE .. NONE.");
        MonitorTurns x = shelf();
        for (int i : row(-1, 0, 1, LEAST, MOST)) {
            DUE.is("trace(" + i + ") of an empty one", x.trace(i), NONE);
        }
        x.weigh(CHEST);
        for (int i : row(-1, 5, 6, LEAST, MOST)) {
            DUE.is("trace(" + i + ")", x.trace(i), NONE);
        }
        DUE.is("trace(4), the last one", x.trace(4), 9);
    }
}
