import java.util.Arrays;

/** The ACTS 0 to 21 and what FITS (parts 1 and 2 of the terms): a test for each sentence that names an edge. */
public final class EdgesOfActsTest extends Scenes {
    private static final Due DUE = new Due("EdgesOfActsTest");
    private static final int[] NO_HANDS = {};

    public static void main(String[] args) {
        set();
        addLessTimesWrap();
        byGoesTowardZero();
        byZero();
        below();
        goWithin();
        goBeyondTheActs();
        goIfZero();
        holdThings();
        holdNothing();
        holdNoSuchThing();
        newThings();
        newThingsAreFull();
        newRowsAreTooLong();
        newRowsOfLessThanNothing();
        newMeetsRoomFirst();
        newOfWhatIsNoRow();
        same();
        pass();
        countAsBox();
        bumpAsBox();
        weighNothing();
        markAsCrate();
        sizeAsRow();
        readNumbers();
        readBeyond();
        writeNumbers();
        writeBeyond();
        takeThings();
        takeBeyond();
        putThings();
        putBeyond();
        putWhatDoesNotFit();
        copyAll();
        copyOfNothing();
        copyAsRows();
        copyMeetsCastFirst();
        copyBeyond();
        copyWhatDoesNotFit();
        copyNothingIntoBoth();
        copyIndexAheadOfStore();
        copyEachAsItStandsThen();
        kindsThatAreOthersToo();
        nothingTakenAsAnything();
        rest();
        DUE.close();
    }

    /** The last act FAILS by this KIND, ends the thread, and did nothing to its REGISTERS, its HANDS, any THING. */
    private static void fails(int failure, MonitorTurns x, int[] hands, int[] registers, int[] act) {
        go(x, 0, hands, registers, act, op(REST));
        String what = Arrays.toString(act) + " of " + Arrays.toString(hands) + ", " + Arrays.toString(registers);
        int[] things = allThings(x);
        x.turn();
        DUE.is("failure of " + what, x.told(0, 2), failure);
        DUE.is("its NUMBER", x.told(0, 3), 0);
        DUE.is("the PLACE", x.told(0, 1), 0);
        DUE.holds("the THINGS stay as they were, " + what, Arrays.equals(things, allThings(x)));
        for (int i = 0; i < registers.length; i++) {
            DUE.is("register(0, " + i + ") behind " + what, x.register(0, i), registers[i]);
        }
        for (int i = 0; i < hands.length; i++) {
            DUE.is("hand(0, " + i + ") behind " + what, x.hand(0, i), hands[i]);
        }
    }

    /** REGISTER 0 behind one act that does not fail. */
    private static void gives(int want, int[] hands, int[] registers, int... act) {
        MonitorTurns x = did(shelf(), hands, registers, op(act[0], Arrays.copyOfRange(act, 1, act.length)));
        String what = Arrays.toString(act) + " of " + Arrays.toString(hands) + ", " + Arrays.toString(registers);
        DUE.is("the PLACE behind " + what, x.told(0, 1), 1);
        DUE.is("register(0, 0) behind " + what, x.register(0, 0), want);
    }

    // ---- numbers and jumps

    private static void set() {
        DUE.sentence("0 SET a b: Ra becomes b.");
        for (int b : row(0, -1, 6, 41, LEAST, MOST)) {
            gives(b, NO_HANDS, row(5), SET, 0, b);
            DUE.is("the last REGISTER", did(shelf(), NO_HANDS, row(5), op(SET, 5, b)).register(0, 5), b);
        }
    }

    private static void addLessTimesWrap() {
        DUE.sentence("1 ADD, 2 LESS, 3 TIMES (all ints wrap)");
        gives(12, NO_HANDS, row(5, 7), ADD, 0, 1);
        gives(LEAST, NO_HANDS, row(MOST, 1), ADD, 0, 1);
        gives(MOST, NO_HANDS, row(LEAST, -1), ADD, 0, 1);
        gives(-2, NO_HANDS, row(MOST), ADD, 0, 0);
        gives(0, NO_HANDS, row(LEAST), ADD, 0, 0);
        gives(-2, NO_HANDS, row(5, 7), LESS, 0, 1);
        gives(MOST, NO_HANDS, row(LEAST, 1), LESS, 0, 1);
        gives(LEAST, NO_HANDS, row(MOST, -1), LESS, 0, 1);
        gives(LEAST, NO_HANDS, row(0, LEAST), LESS, 0, 1);
        gives(0, NO_HANDS, row(LEAST), LESS, 0, 0);
        gives(-35, NO_HANDS, row(5, -7), TIMES, 0, 1);
        gives(0, NO_HANDS, row(65536, 65536), TIMES, 0, 1);
        gives(1, NO_HANDS, row(MOST), TIMES, 0, 0);
        gives(LEAST, NO_HANDS, row(LEAST, -1), TIMES, 0, 1);
        gives(-2, NO_HANDS, row(MOST, 2), TIMES, 0, 1);
    }

    private static void byGoesTowardZero() {
        DUE.sentence("4 BY (toward 0");
        gives(3, NO_HANDS, row(7, 2), BY, 0, 1);
        gives(-3, NO_HANDS, row(-7, 2), BY, 0, 1);
        gives(-3, NO_HANDS, row(7, -2), BY, 0, 1);
        gives(3, NO_HANDS, row(-7, -2), BY, 0, 1);
        gives(0, NO_HANDS, row(-1, 2), BY, 0, 1);
        gives(0, NO_HANDS, row(0, LEAST), BY, 0, 1);
        gives(1, NO_HANDS, row(LEAST), BY, 0, 0);
        gives(LEAST, NO_HANDS, row(LEAST, -1), BY, 0, 1);
        gives(-MOST, NO_HANDS, row(MOST, -1), BY, 0, 1);
        gives(0, NO_HANDS, row(MOST, LEAST), BY, 0, 1);
    }

    private static void byZero() {
        DUE.sentence("(toward 0; ZERO)");
        for (int v : row(0, 1, -1, LEAST, MOST)) {
            fails(F_ZERO, shelf(), NO_HANDS, row(v, 0), op(BY, 0, 1));
        }
        fails(F_ZERO, shelf(), NO_HANDS, row(0), op(BY, 0, 0));
    }

    private static void below() {
        DUE.sentence("5 BELOW a b c: Ra becomes 1 if Rb is below Rc, else 0.");
        int[][] pairs = {{1, 2, 1}, {2, 1, 0}, {2, 2, 0}, {LEAST, MOST, 1}, {MOST, LEAST, 0}, {-1, 0, 1}, {0, -1, 0},
            {LEAST, LEAST, 0}, {MOST, MOST, 0}, {MOST - 1, MOST, 1}, {LEAST, LEAST + 1, 1}};
        for (int[] pair : pairs) {
            gives(pair[2], NO_HANDS, row(9, pair[0], pair[1]), BELOW, 0, 1, 2);
        }
        gives(1, NO_HANDS, row(3, 4), BELOW, 0, 0, 1);
        gives(0, NO_HANDS, row(3), BELOW, 0, 0, 0);
    }

    /** The PLACE and the state behind one jump in a program of three ACTS. */
    private static void jumps(int place, int state, int[] jump) {
        MonitorTurns x = new MonitorTurns();
        go(x, 0, NO_HANDS, row(0, 1), jump, op(REST), op(REST));
        x.turn();
        DUE.is("told(0, 1) behind " + Arrays.toString(jump), x.told(0, 1), place);
        DUE.is("told(0, 0) behind " + Arrays.toString(jump), x.told(0, 0), state);
        DUE.is("told(0, 2)", x.told(0, 2), 0);
    }

    private static void goWithin() {
        DUE.sentence("6 GO a: PLACE becomes a");
        for (int place = 0; place < 3; place++) {
            jumps(place, T_READY, op(GO, place));
        }
    }

    private static void goBeyondTheActs() {
        DUE.sentence("(the END, if there are not so many ACTS)");
        for (int place : row(3, 4, 39, 40)) {
            jumps(3, T_ENDED, op(GO, place));
        }
        MonitorTurns x = new MonitorTurns();
        int[][] acts = new int[40][];
        Arrays.fill(acts, op(REST));
        acts[0] = op(GO, 39);
        acts[39] = op(GO, 40);
        go(x, 0, NO_HANDS, row(), acts);
        x.turn();
        DUE.is("told(0, 1): the last ACT of 40", x.told(0, 1), 39);
        x.turn();
        DUE.is("told(0, 1): the END behind 40", x.told(0, 1), 40);
        DUE.is("told(0, 0)", x.told(0, 0), T_ENDED);
    }

    private static void goIfZero() {
        DUE.sentence("7 GOZ a b: that, if Rb is 0.");
        jumps(2, T_READY, op(GOZ, 2, 0));
        jumps(0, T_READY, op(GOZ, 0, 0));
        jumps(3, T_ENDED, op(GOZ, 3, 0));
        jumps(3, T_ENDED, op(GOZ, 40, 0));
        jumps(1, T_READY, op(GOZ, 2, 1));
        jumps(1, T_READY, op(GOZ, 40, 1));
        for (int v : row(-1, 1, LEAST, MOST)) {
            MonitorTurns x = did(shelf(), NO_HANDS, row(v), op(GOZ, 0, 0));
            DUE.is("told(0, 1) of " + v, x.told(0, 1), 1);
        }
    }

    // ---- THINGS in HANDS

    private static void holdThings() {
        DUE.sentence("8 HOLD a b: Ha becomes THING Rb");
        for (int thing : row(0, 1, SECOND_BOX)) {
            DUE.is("hand(0, 2)", did(shelf(), NO_HANDS, row(thing), op(HOLD, 2, 0)).hand(0, 2), thing);
        }
    }

    private static void holdNothing() {
        DUE.sentence("NOTHING, if Rb is -1");
        MonitorTurns x = did(shelf(), row(4), row(-1), op(HOLD, 0, 0));
        DUE.is("hand(0, 0)", x.hand(0, 0), NONE);
        DUE.is("told(0, 2)", x.told(0, 2), 0);
        x = did(new MonitorTurns(), NO_HANDS, row(-1), op(HOLD, 0, 0));
        DUE.is("told(0, 1) without THINGS", x.told(0, 1), 1);
    }

    private static void holdNoSuchThing() {
        DUE.sentence("(INDEX: no such THING)");
        for (int none : row(SHELF, 31, 32, -2, NONE, LEAST, MOST)) {
            fails(F_INDEX, shelf(), row(4), row(none), op(HOLD, 0, 0));
        }
        fails(F_INDEX, new MonitorTurns(), NO_HANDS, row(0), op(HOLD, 0, 0));
    }

    private static void newThings() {
        DUE.sentence("9 NEW a k c: Ha becomes a new THING of KIND k, a ROW with Rc PLACES");
        for (int kind = PLAIN; kind <= BOXES; kind++) {
            for (int n : row(0, 1, 12)) {
                MonitorTurns x = did(shelf(), NO_HANDS, row(n), op(NEW, 5, kind, 0));
                DUE.is("hand(0, 5)", x.hand(0, 5), SHELF);
                DUE.is("of(9, 0)", x.of(SHELF, 0), kind);
                DUE.is("of(9, 1)", x.of(SHELF, 1), kind >= INTS ? n : 0);
                DUE.is("of(9, 2)", x.of(SHELF, 2), NONE);
            }
        }
    }

    private static MonitorTurns with(int things) {
        MonitorTurns x = new MonitorTurns();
        for (int i = 0; i < things; i++) {
            x.thing(PLAIN, 0);
        }
        return x;
    }

    private static void newThingsAreFull() {
        DUE.sentence("(ROOM: there are 32 THINGS");
        for (int kind = PLAIN; kind <= BOXES; kind++) {
            fails(F_ROOM, with(32), row(7), row(0), op(NEW, 0, kind, 0));
            MonitorTurns x = did(with(31), NO_HANDS, row(0), op(NEW, 0, kind, 0));
            DUE.is("hand(0, 0): the 32nd", x.hand(0, 0), 31);
            DUE.is("count(13)", x.count(13), 32);
        }
    }

    private static void newRowsAreTooLong() {
        DUE.sentence("Rc above 12;");
        for (int kind = INTS; kind <= BOXES; kind++) {
            for (int n : row(13, 14, MOST)) {
                fails(F_ROOM, shelf(), row(7), row(n), op(NEW, 0, kind, 0));
            }
        }
    }

    private static void newRowsOfLessThanNothing() {
        DUE.sentence("SIZE: Rc below 0)");
        for (int kind = INTS; kind <= BOXES; kind++) {
            for (int n : row(-1, -2, LEAST)) {
                fails(F_SIZE, shelf(), row(7), row(n), op(NEW, 0, kind, 0));
            }
        }
    }

    private static void newMeetsRoomFirst() {
        DUE.sentence("the first in the order told is met (NEW: ROOM, SIZE)");
        for (int kind = INTS; kind <= BOXES; kind++) {
            for (int n : row(-1, LEAST, 13)) {
                fails(F_ROOM, with(32), NO_HANDS, row(n), op(NEW, 0, kind, 0));
            }
        }
    }

    private static void newOfWhatIsNoRow() {
        DUE.sentence("a ROW with Rc PLACES (of what is no ROW Rc is not looked at)");
        for (int kind = PLAIN; kind <= CHEST; kind++) {
            for (int n : row(-1, 13, LEAST, MOST)) {
                MonitorTurns x = did(shelf(), NO_HANDS, row(n), op(NEW, 0, kind, 0));
                DUE.is("hand(0, 0)", x.hand(0, 0), SHELF);
                DUE.is("of(9, 0)", x.of(SHELF, 0), kind);
                DUE.is("of(9, 1)", x.of(SHELF, 1), 0);
                DUE.is("item(9, 0)", x.item(SHELF, 0), BAD);
            }
        }
    }

    private static void same() {
        DUE.sentence("10 SAME a b c: Ra becomes 1 if Hb and Hc are the same, or both NOTHING, else 0.");
        gives(1, row(BOX, BOX), row(9), SAME, 0, 0, 1);
        gives(1, row(BOX), row(9), SAME, 0, 0, 0);
        gives(0, row(BOX, SECOND_BOX), row(9), SAME, 0, 0, 1);
        gives(1, row(NONE, NONE), row(9), SAME, 0, 0, 1);
        gives(1, NO_HANDS, row(9), SAME, 0, 5, 5);
        gives(0, row(0, NONE), row(9), SAME, 0, 0, 1);
        gives(0, row(NONE, 0), row(9), SAME, 0, 0, 1);
    }

    private static void pass() {
        DUE.sentence("11 PASS a b: Ha becomes Hb.");
        MonitorTurns x = did(shelf(), row(3, 4, NONE), row(), op(PASS, 0, 1), op(PASS, 1, 2), op(PASS, 2, 2),
                op(PASS, 5, 0));
        int[] want = {4, NONE, NONE, NONE, NONE, 4};
        for (int h = 0; h < 6; h++) {
            DUE.is("hand(0, " + h + ")", x.hand(0, h), want[h]);
        }
        DUE.is("told(0, 2)", x.told(0, 2), 0);
    }

    /** This act meets NULL for NOTHING in HAND 0, CAST for each KIND but those from the least to the greatest. */
    private static void takenAs(int least, int greatest, int[] act) {
        fails(F_NULL, shelf(), row(NONE), row(0, 0, 0), act);
        for (int kind = PLAIN; kind <= BOXES; kind++) {
            if (kind < least || kind > greatest) {
                fails(F_CAST, shelf(), row(kind), row(0, 0, 0), act);
            } else {
                MonitorTurns x = did(shelf(), row(kind), row(0, 0, 0), act);
                DUE.is("told(0, 1) behind " + Arrays.toString(act) + " of KIND " + kind, x.told(0, 1), 1);
            }
        }
    }

    private static void countAsBox() {
        DUE.sentence("12 COUNT a b: Ra becomes the COUNT of Hb, AS a BOX (CAST, NULL).");
        takenAs(BOX, CHEST, op(COUNT, 0, 0));
    }

    private static void bumpAsBox() {
        DUE.sentence("13 BUMP a b: the COUNT of Ha, AS a BOX, becomes Rb more (CAST, NULL).");
        takenAs(BOX, CHEST, op(BUMP, 0, 0));
        for (int by : row(0, 1, -1, LEAST, MOST)) {
            DUE.is("of(1, 1)", did(shelf(), row(BOX), row(by), op(BUMP, 0, 0)).of(BOX, 1), by);
        }
    }

    private static void weighNothing() {
        DUE.sentence("14 WEIGH a b: Ra becomes what Hb WEIGHS (NULL).");
        takenAs(PLAIN, BOXES, op(WEIGH, 0, 0));
        gives(159, row(CHEST), row(0), WEIGH, 0, 0);
    }

    private static void markAsCrate() {
        DUE.sentence("15 MARK a b: Ra becomes the own MARK of Hb, AS a CRATE (CAST, NULL).");
        takenAs(CRATE, CHEST, op(MARK, 0, 0));
        gives(5, row(CRATE), row(0), MARK, 0, 0);
        gives(5, row(CHEST), row(0), MARK, 0, 0);
    }

    // ---- ROWS

    private static void sizeAsRow() {
        DUE.sentence("16 SIZE a b: Ra becomes how many PLACES Hb has, AS a ROW (CAST, NULL).");
        takenAs(INTS, BOXES, op(SIZE, 0, 0));
        for (int kind = INTS; kind <= BOXES; kind++) {
            for (int n : row(0, 1, 12)) {
                MonitorTurns x = did(shelf(), NO_HANDS, row(n), op(NEW, 0, kind, 0), op(SIZE, 1, 0));
                DUE.is("SIZE of KIND " + kind, x.register(0, 1), n);
            }
        }
    }

    private static void readNumbers() {
        DUE.sentence("17 READ a b c: Ra becomes number Rc of Hb, AS a ROW of ints, or of bytes (CAST, NULL");
        takenAs(INTS, BYTES, op(READ, 0, 0, 1));
        for (int kind : row(INTS, BYTES)) {
            MonitorTurns x = did(shelf(), row(kind), row(0, 2, 11, 13), op(WRITE, 0, 0, 2), op(WRITE, 0, 1, 3),
                    op(READ, 4, 0, 0), op(READ, 5, 0, 1));
            DUE.is("READ of the first one", x.register(0, 4), 11);
            DUE.is("READ of the last one", x.register(0, 5), 13);
        }
        // what it is taken AS is looked at ahead of the number
        fails(F_CAST, shelf(), row(THINGS), row(-1), op(READ, 0, 0, 0));
        fails(F_NULL, shelf(), row(NONE), row(-1), op(READ, 0, 0, 0));
    }

    private static final int[] NO_PLACE_OF_THREE = {-1, 3, 4, 12, LEAST, MOST};

    private static void readBeyond() {
        DUE.sentence("(CAST, NULL, INDEX) (READ)");
        for (int kind : row(INTS, BYTES)) {
            for (int i : NO_PLACE_OF_THREE) {
                fails(F_INDEX, shelf(), row(kind), row(9, i), op(READ, 0, 0, 1));
            }
            fails(F_INDEX, empty(kind), row(0), row(9, 0), op(READ, 0, 0, 1));
        }
    }

    private static MonitorTurns empty(int kind) {
        MonitorTurns x = new MonitorTurns();
        x.thing(kind, 0);
        return x;
    }

    private static void writeNumbers() {
        DUE.sentence("18 WRITE a b c: number Rb of Ha, likewise, becomes Rc (CAST, NULL");
        takenAs(INTS, BYTES, op(WRITE, 0, 1, 2));
        for (int kind : row(INTS, BYTES)) {
            MonitorTurns x = did(shelf(), row(kind), row(0, 2, 11, 13), op(WRITE, 0, 0, 2), op(WRITE, 0, 1, 3));
            int[] want = {11, 0, 13};
            for (int i = 0; i < 3; i++) {
                DUE.is("item(.., " + i + ")", x.item(kind, i), want[i]);
            }
        }
        fails(F_CAST, shelf(), row(BOXES), row(3), op(WRITE, 0, 0, 0));
        fails(F_NULL, shelf(), row(NONE), row(3), op(WRITE, 0, 0, 0));
    }

    private static void writeBeyond() {
        DUE.sentence("(CAST, NULL, INDEX) (WRITE)");
        for (int kind : row(INTS, BYTES)) {
            for (int i : NO_PLACE_OF_THREE) {
                fails(F_INDEX, shelf(), row(kind), row(9, i), op(WRITE, 0, 1, 0));
            }
            fails(F_INDEX, empty(kind), row(0), row(9, 0), op(WRITE, 0, 1, 0));
        }
    }

    private static void takeThings() {
        DUE.sentence("19 TAKE a b c: Ha becomes what stands at PLACE Rc of Hb, AS a ROW of THINGS (CAST, NULL");
        takenAs(THINGS, BOXES, op(TAKE, 0, 0, 0));
        for (int kind : row(THINGS, BOXES)) {
            MonitorTurns x = did(shelf(), row(kind, CHEST, PLAIN, PLAIN), row(0, 2), op(PUT, 0, 1, 1),
                    op(TAKE, 4, 0, 1), op(TAKE, 2, 0, 0), op(TAKE, 0, 0, 1));
            DUE.is("TAKE of the last one", x.hand(0, 4), CHEST);
            DUE.is("TAKE of NOTHING", x.hand(0, 2), NONE);
            DUE.is("TAKE into the HAND of the ROW", x.hand(0, 0), CHEST);
            DUE.is("it stands there still", x.item(kind, 2), CHEST);
        }
        fails(F_CAST, shelf(), row(INTS), row(-1), op(TAKE, 0, 0, 0));
        fails(F_NULL, shelf(), row(NONE), row(-1), op(TAKE, 0, 0, 0));
    }

    private static void takeBeyond() {
        DUE.sentence("(CAST, NULL, INDEX) (TAKE)");
        for (int kind : row(THINGS, BOXES)) {
            for (int i : NO_PLACE_OF_THREE) {
                fails(F_INDEX, shelf(), row(kind, 0), row(i), op(TAKE, 1, 0, 0));
            }
            fails(F_INDEX, empty(kind), row(0), row(0), op(TAKE, 1, 0, 0));
        }
    }

    private static void putThings() {
        DUE.sentence("20 PUT a b c: PLACE Rb of Ha, AS a ROW of THINGS, becomes Hc (CAST, NULL");
        takenAs(THINGS, BOXES, op(PUT, 0, 0, 1));
        for (int kind : row(THINGS, BOXES)) {
            MonitorTurns x = did(shelf(), row(kind, BOX, NONE), row(0, 2), op(PUT, 0, 0, 1), op(PUT, 0, 1, 1),
                    op(PUT, 0, 0, 2));
            DUE.is("item(.., 0): NOTHING again", x.item(kind, 0), NONE);
            DUE.is("item(.., 1)", x.item(kind, 1), NONE);
            DUE.is("item(.., 2)", x.item(kind, 2), BOX);
        }
        fails(F_CAST, shelf(), row(BYTES), row(-1), op(PUT, 0, 0, 1));
        fails(F_NULL, shelf(), row(NONE), row(-1), op(PUT, 0, 0, 1));
    }

    private static void putBeyond() {
        DUE.sentence("(CAST, NULL, INDEX, STORE (PUT: INDEX)");
        for (int kind : row(THINGS, BOXES)) {
            for (int i : NO_PLACE_OF_THREE) {
                // INDEX comes ahead of STORE: PLAIN fits no ROW of BOXES
                fails(F_INDEX, shelf(), row(kind, PLAIN), row(i), op(PUT, 0, 0, 1));
                fails(F_INDEX, shelf(), row(kind, BOX), row(i), op(PUT, 0, 0, 1));
            }
            fails(F_INDEX, empty(kind), row(0, NONE), row(0), op(PUT, 0, 0, 1));
        }
    }

    private static void putWhatDoesNotFit() {
        DUE.sentence("STORE: it does not FIT (A THING FITS a ROW of THINGS; of BOXES a BOX; NOTHING both)");
        for (int thing = PLAIN; thing <= SECOND_BOX; thing++) {
            MonitorTurns x = did(shelf(), row(THINGS, thing), row(), op(PUT, 0, 0, 1));
            DUE.is("PUT of " + thing + " into THINGS", x.item(THINGS, 0), thing);
            if (thing >= BOX && thing <= CHEST || thing == SECOND_BOX) {
                x = did(shelf(), row(BOXES, thing), row(), op(PUT, 0, 0, 1));
                DUE.is("PUT of " + thing + " into BOXES", x.item(BOXES, 0), thing);
            } else {
                fails(F_STORE, shelf(), row(BOXES, thing), row(0), op(PUT, 0, 0, 1));
            }
        }
    }

    // ---- COPY

    private static void itemsAre(MonitorTurns x, int thing, int... want) {
        for (int i = 0; i < want.length; i++) {
            DUE.is("item(" + thing + ", " + i + ")", x.item(thing, i), want[i]);
        }
    }

    /** Things 0, 1: ROWS of these KINDS and sizes; 2 a BOX, 3 a CHEST, 4 PLAIN. Rows of numbers count from 1 on. */
    private static MonitorTurns twoRows(int from, int fromPlaces, int to, int toPlaces) {
        MonitorTurns x = new MonitorTurns();
        x.thing(from, fromPlaces);
        x.thing(to, toPlaces);
        x.thing(BOX, 0);
        x.thing(CHEST, 0);
        x.thing(PLAIN, 0);
        for (int i = 0; from <= BYTES && i < fromPlaces; i++) {
            go(x, 5, row(0), row(i, i + 1), op(WRITE, 0, 0, 1));
            x.turn();
        }
        return x;
    }

    private static void put(MonitorTurns x, int row, int i, int thing) {
        go(x, 5, row(row, thing), row(i), op(PUT, 0, 0, 1));
        DUE.is("turn()", x.turn(), 5);
        DUE.is("item()", x.item(row, i), thing);
    }

    private static void copyAll() {
        DUE.sentence("21 COPY a b c: all that stands in Ha comes to Hb from PLACE Rc on");
        MonitorTurns x = did(twoRows(INTS, 3, INTS, 5), row(0, 1), row(2), op(COPY, 0, 1, 0));
        itemsAre(x, 1, 0, 0, 1, 2, 3);
        DUE.is("told(0, 1)", x.told(0, 1), 1);
        x = did(twoRows(BYTES, 12, INTS, 12), row(0, 1), row(0), op(COPY, 0, 1, 0));
        itemsAre(x, 1, 1, 2, 3, 4, 5, 6, 7, 8, 9, 10, 11, 12);
        x = did(twoRows(BYTES, 1, BYTES, 12), row(0, 1), row(11), op(COPY, 0, 1, 0));
        itemsAre(x, 1, 0, 0, 0, 0, 0, 0, 0, 0, 0, 0, 0, 1);
        itemsAre(x, 0, 1);
    }

    private static void copyOfNothing() {
        DUE.sentence("all that stands in Ha (a ROW without PLACES: of each one INDEX, STORE)");
        for (int from = INTS; from <= BOXES; from++) {
            for (int to = INTS; to <= BOXES; to++) {
                for (int at : row(0, 3, 4, -1, LEAST, MOST)) {
                    MonitorTurns x = did(twoRows(from, 0, to, 3), row(0, 1), row(at), op(COPY, 0, 1, 0));
                    DUE.is("told(0, 1)", x.told(0, 1), 1);
                    DUE.is("told(0, 2)", x.told(0, 2), 0);
                }
            }
        }
    }

    private static void copyAsRows() {
        DUE.sentence("(CAST: Ha, then Hb AS ROWS; NULL likewise");
        for (int kind = PLAIN; kind <= CHEST; kind++) {
            fails(F_CAST, shelf(), row(kind, INTS), row(0), op(COPY, 0, 1, 0));
            fails(F_CAST, shelf(), row(INTS, kind), row(0), op(COPY, 0, 1, 0));
            fails(F_CAST, shelf(), row(kind), row(0), op(COPY, 0, 0, 0));
        }
        for (int kind = INTS; kind <= BOXES; kind++) {
            fails(F_NULL, shelf(), row(NONE, kind), row(0), op(COPY, 0, 1, 0));
            fails(F_NULL, shelf(), row(kind, NONE), row(0), op(COPY, 0, 1, 0));
            // NULL is met ahead of INDEX
            fails(F_NULL, shelf(), row(kind, NONE), row(-1), op(COPY, 0, 1, 0));
        }
        fails(F_NULL, shelf(), row(NONE, NONE), row(0), op(COPY, 0, 1, 0));
        fails(F_NULL, empty(INTS), row(0, NONE), row(0), op(COPY, 0, 1, 0));
    }

    private static void copyMeetsCastFirst() {
        DUE.sentence("the first in the order told is met (COPY: CAST, NULL)");
        for (int kind = PLAIN; kind <= CHEST; kind++) {
            fails(F_CAST, shelf(), row(NONE, kind), row(0), op(COPY, 0, 1, 0));
            fails(F_CAST, shelf(), row(kind, NONE), row(0), op(COPY, 0, 1, 0));
        }
    }

    private static void copyBeyond() {
        DUE.sentence("of each one INDEX: Hb has no such PLACE");
        MonitorTurns x = did(twoRows(INTS, 3, INTS, 4), row(0, 1), row(2), op(COPY, 0, 1, 0));
        DUE.is("told(0, 2)", x.told(0, 2), F_INDEX);
        // those ahead have come
        itemsAre(x, 1, 0, 0, 1, 2);
        x = did(twoRows(INTS, 3, INTS, 4), row(0, 1), row(3), op(COPY, 0, 1, 0));
        DUE.is("told(0, 2)", x.told(0, 2), F_INDEX);
        itemsAre(x, 1, 0, 0, 0, 1);
        x = did(twoRows(INTS, 3, INTS, 2), row(0, 1), row(0), op(COPY, 0, 1, 0));
        DUE.is("told(0, 2)", x.told(0, 2), F_INDEX);
        itemsAre(x, 1, 1, 2);
        // of the first one at once: none has come
        for (int at : row(4, 5, -1, -2, LEAST, MOST, MOST - 1)) {
            fails(F_INDEX, twoRows(INTS, 3, INTS, 4), row(0, 1), row(at), op(COPY, 0, 1, 0));
        }
        fails(F_INDEX, twoRows(INTS, 1, INTS, 0), row(0, 1), row(0), op(COPY, 0, 1, 0));
    }

    private static void copyWhatDoesNotFit() {
        DUE.sentence("a byte one of ints, an int none of bytes; numbers none of THINGS, nor these one of numbers");
        boolean[][] fits = {
            {true, false, false, false}, {true, true, false, false}, {false, false, true, true},
            {false, false, true, true}};
        for (int from = INTS; from <= BOXES; from++) {
            for (int to = INTS; to <= BOXES; to++) {
                if (fits[from - INTS][to - INTS]) {
                    MonitorTurns x = did(twoRows(from, 3, to, 3), row(0, 1), row(0), op(COPY, 0, 1, 0));
                    DUE.is("told(0, 1), KIND " + from + " to " + to, x.told(0, 1), 1);
                } else {
                    fails(F_STORE, twoRows(from, 3, to, 3), row(0, 1), row(0), op(COPY, 0, 1, 0));
                }
            }
        }
    }

    private static void copyNothingIntoBoth() {
        DUE.sentence("then STORE: it does not FIT: those ahead have come");
        MonitorTurns x = twoRows(THINGS, 4, BOXES, 4);
        put(x, 0, 0, 3);
        put(x, 0, 2, 2);
        put(x, 0, 3, 4);
        put(x, 1, 1, 2);
        did(x, row(0, 1), row(0), op(COPY, 0, 1, 0));
        DUE.is("told(0, 2)", x.told(0, 2), F_STORE);
        DUE.is("told(0, 1)", x.told(0, 1), 0);
        // NOTHING came over the BOX, PLAIN did not come
        itemsAre(x, 1, 3, NONE, 2, NONE);
        x = twoRows(BOXES, 2, THINGS, 2);
        put(x, 0, 1, 3);
        did(x, row(0, 1), row(0), op(COPY, 0, 1, 0));
        DUE.is("told(0, 1)", x.told(0, 1), 1);
        itemsAre(x, 1, NONE, 3);
    }

    private static void copyIndexAheadOfStore() {
        DUE.sentence("of each one INDEX: .. , then STORE");
        for (int at : row(3, -1, LEAST, MOST)) {
            fails(F_INDEX, twoRows(INTS, 3, BYTES, 3), row(0, 1), row(at), op(COPY, 0, 1, 0));
            fails(F_INDEX, twoRows(THINGS, 3, INTS, 3), row(0, 1), row(at), op(COPY, 0, 1, 0));
        }
        // the second one meets STORE ahead of the third one's INDEX
        MonitorTurns x = twoRows(THINGS, 3, BOXES, 2);
        put(x, 0, 0, 2);
        put(x, 0, 1, 4);
        did(x, row(0, 1), row(0), op(COPY, 0, 1, 0));
        DUE.is("told(0, 2)", x.told(0, 2), F_STORE);
        itemsAre(x, 1, 2, NONE);
    }

    private static void copyEachAsItStandsThen() {
        DUE.sentence("one by one, from the first on, each as it stands then");
        MonitorTurns x = did(twoRows(INTS, 4, INTS, 0), row(0), row(1), op(COPY, 0, 0, 0));
        DUE.is("told(0, 2)", x.told(0, 2), F_INDEX);
        itemsAre(x, 0, 1, 1, 1, 1);
        x = did(twoRows(INTS, 4, INTS, 0), row(0), row(2), op(COPY, 0, 0, 0));
        itemsAre(x, 0, 1, 2, 1, 2);
        x = did(twoRows(BYTES, 4, INTS, 0), row(0), row(0), op(COPY, 0, 0, 0));
        DUE.is("told(0, 1): all onto itself", x.told(0, 1), 1);
        itemsAre(x, 0, 1, 2, 3, 4);
        fails(F_INDEX, twoRows(INTS, 4, INTS, 0), row(0), row(4), op(COPY, 0, 0, 0));
    }

    private static void kindsThatAreOthersToo() {
        DUE.sentence("2 CRATE (a BOX, too); 3 CHEST (a CRATE, too); .. 7 of BOXES (a ROW of THINGS, too)");
        for (int kind : row(CRATE, CHEST)) {
            MonitorTurns x = did(shelf(), row(kind, BOXES, THINGS), row(4, 2), op(BUMP, 0, 0), op(COUNT, 2, 0),
                    op(MARK, 3, 0), op(PUT, 1, 1, 0), op(TAKE, 5, 1, 1), op(PUT, 2, 1, 1));
            DUE.is("COUNT AS a BOX", x.register(0, 2), 4);
            DUE.is("MARK AS a CRATE", x.register(0, 3), 5);
            DUE.is("PUT where BOXES FIT", x.item(BOXES, 2), kind);
            DUE.is("TAKE of BOXES AS a ROW of THINGS", x.hand(0, 5), kind);
            DUE.is("PUT of a ROW, which is a THING, too", x.item(THINGS, 2), BOXES);
        }
        // not the other way round
        fails(F_CAST, shelf(), row(BOX), row(0), op(MARK, 0, 0));
        fails(F_STORE, shelf(), row(BOXES, THINGS), row(0), op(PUT, 0, 0, 1));
        fails(F_STORE, shelf(), row(BOXES, BOXES), row(0), op(PUT, 0, 0, 1));
    }

    private static void nothingTakenAsAnything() {
        DUE.sentence("NOTHING may be taken as anything (NULL, when it is used)");
        for (int op : row(COUNT, WEIGH, MARK, SIZE, READ, TAKE)) {
            fails(F_NULL, shelf(), row(NONE, NONE), row(0, 0), op(op, 0, 1, 0));
        }
        for (int op : row(BUMP, WRITE, PUT, COPY, ENTER, LEAVE, WAIT, TELL, TELLALL)) {
            fails(F_NULL, shelf(), row(NONE, NONE), row(0, 0), op(op, 0, 1, 1));
        }
        // SAME, PASS and PUT do not use what they look at, pass on, put
        MonitorTurns x = did(shelf(), row(NONE, NONE, BOXES), row(0, 9), op(SAME, 1, 0, 1), op(PASS, 3, 0),
                op(PUT, 2, 0, 1));
        DUE.is("told(0, 1)", x.told(0, 1), 3);
        DUE.is("register(0, 1)", x.register(0, 1), 1);
        DUE.is("count(12)", x.count(12), 0);
    }

    private static void rest() {
        DUE.sentence("36 REST: nothing.");
        MonitorTurns x = shelf();
        int[] things = allThings(x);
        did(x, row(1, 2, 3, 4, 5, 6), row(1, 2, 3, 4, 5, 6), op(REST));
        DUE.holds("the THINGS stay", Arrays.equals(things, allThings(x)));
        for (int i = 0; i < 6; i++) {
            DUE.is("register(0, " + i + ")", x.register(0, i), i + 1);
            DUE.is("hand(0, " + i + ")", x.hand(0, i), i + 1);
        }
        DUE.is("told(0, 1)", x.told(0, 1), 1);
        DUE.is("told(0, 8)", x.told(0, 8), 1);
        DUE.is("count(0)", x.count(0), 1);
    }
}
