/** The boundary cases under "Terms": each sentence that names one has a test of its own. */
public final class TermsEdgeTest extends Programs {
    private static final Check CHECK = new Check();

    public static void main(String[] args) {
        valuesAndCells();
        instructions();
        livesAndSpans();
        room();
        code();
        CHECK.end();
    }

    private static void valuesAndCells() {
        CHECK.sentence("VALUES v0 .. v15", TermsEdgeTest::firstAndLastValue);
        CHECK.sentence("ints of 32 bits", TermsEdgeTest::greatestAndLeastInt);
        CHECK.sentence("arithmetic goes round: ADD", TermsEdgeTest::addGoesRound);
        CHECK.sentence("arithmetic goes round: SUB", TermsEdgeTest::subGoesRound);
        CHECK.sentence("arithmetic goes round: MUL", TermsEdgeTest::mulGoesRound);
        CHECK.sentence("CELLS 0 .. 15 of memory likewise", TermsEdgeTest::sixteenCells);
        CHECK.sentence("all are 0 at first: values", TermsEdgeTest::valuesAreZeroAtFirst);
        CHECK.sentence("all are 0 at first: cells", TermsEdgeTest::cellsAreZeroAtFirst);
    }

    private static void instructions() {
        CHECK.sentence("instructions 0, 1, .. (at most 64)", TermsEdgeTest::atMostSixtyFour);
        CHECK.sentence("READ vx = the next input, 0 without one", TermsEdgeTest::readWithoutInput);
        CHECK.sentence("LOAD vx = the cell vy & 15", TermsEdgeTest::loadGoesRoundTheCells);
        CHECK.sentence("STORE: the cell vx & 15 = vy", TermsEdgeTest::storeGoesRoundTheCells);
        CHECK.sentence("LESS: if vx < vy go to z", TermsEdgeTest::lessAtItsEdges);
        CHECK.sentence("SAME: if vx = vy go to z", TermsEdgeTest::sameAtItsEdges);
        CHECK.sentence("One goes to 0", TermsEdgeTest::goesToTheFirst);
        CHECK.sentence(".. the number of instructions (then it is at the END)", TermsEdgeTest::goesToTheEnd);
        CHECK.sentence("at the END, as behind the last one", TermsEdgeTest::endsBehindTheLast);
    }

    private static void livesAndSpans() {
        CHECK.sentence("READ by an instruction that has it on the right (x, y of 7, 8, 10, 11)",
            TermsEdgeTest::whatIsRead);
        CHECK.sentence("SET by 0 .. 6 (vx)", TermsEdgeTest::whatIsSet);
        CHECK.sentence("POINTS 2 i and 2 i + 1", TermsEdgeTest::firstAndLastPoint);
        CHECK.sentence("some way (each LESS and SAME taken or not)", TermsEdgeTest::waysThatAreNeverGone);
        CHECK.sentence("leads to an instruction that reads it", TermsEdgeTest::waysThatLeadNowhere);
        CHECK.sentence("some way, though it is as long as can be", TermsEdgeTest::longWayAgainstTheOrder);
        CHECK.sentence("none ahead of that on the way sets it", TermsEdgeTest::settingEndsTheWay);
        CHECK.sentence("none ahead of that: the one that reads it may set it", TermsEdgeTest::readingAndSettingAtOnce);
        CHECK.sentence("from the least to the greatest of the points where it lives",
            TermsEdgeTest::spanHasHoles);
        CHECK.sentence("and of those 2 i + 1 where i sets it", TermsEdgeTest::spanHasWhereItIsSet);
        CHECK.sentence("without such a point it has none", TermsEdgeTest::spanWithoutPoint);
    }

    private static void room() {
        CHECK.sentence("gone through by its first point", TermsEdgeTest::byFirstPoint);
        CHECK.sentence("then by their number", TermsEdgeTest::thenByNumber);
        CHECK.sentence("those whose span ended before that point are free again", TermsEdgeTest::freeBehindTheEnd);
        CHECK.sentence("before that point, not at it", TermsEdgeTest::notFreeAtTheEnd);
        CHECK.sentence("one of the R registers", TermsEdgeTest::oneToEightRegisters);
        CHECK.sentence("the value gets the least one", TermsEdgeTest::leastFreeRegister);
        CHECK.sentence("of those that have registers now and this one: this one", TermsEdgeTest::thisOneEndsLast);
        CHECK.sentence("if it is another one, this one gets its register", TermsEdgeTest::anotherOneEndsLast);
        CHECK.sentence("of those that have registers now", TermsEdgeTest::noneIsDrivenOutTwice);
        CHECK.sentence("of these the one with the greatest number", TermsEdgeTest::ofThoseThatEndAtOnce);
        CHECK.sentence("the next stack place, 0, 1, ..", TermsEdgeTest::stackPlacesInOrder);
        CHECK.sentence("the next stack place, never one again", TermsEdgeTest::stackPlacesAreNotUsedAgain);
        CHECK.sentence("for its whole life", TermsEdgeTest::stackPlaceFromTheBeginning);
    }

    private static void code() {
        CHECK.sentence("what it reads from the stack is LOADED first", TermsEdgeTest::loadsOfEachSort);
        CHECK.sentence("a value that stands twice twice", TermsEdgeTest::loadsOfTheSameTwice);
        CHECK.sentence("what it sets there is STORED behind it", TermsEdgeTest::storesOfEachSort);
        CHECK.sentence("a COPY of two values with the same register is left out",
            TermsEdgeTest::copyWithinARegister);
        CHECK.sentence("it is an instruction that is done, all the same", TermsEdgeTest::leftOutIsDone);
        CHECK.sentence("others load and store like any instruction", TermsEdgeTest::copiesThatAreNotLeftOut);
        CHECK.sentence("Running, all registers, stack places and cells are 0 at first",
            TermsEdgeTest::runningBeginsWithZero);
    }

    private static void firstAndLastValue() {
        RoomMaker maker = builtWith(2, row(SET, 0, 11), row(SET, 15, 12), row(WRITE, 15), row(WRITE, 0));
        maker.run(2);
        CHECK.due("value(0)", 11, () -> maker.value(0));
        CHECK.due("value(15)", 12, () -> maker.value(15));
        CHECK.due("place(0)", 0, () -> maker.place(0));
        CHECK.due("place(15)", 1, () -> maker.place(15));
        CHECK.due("lives(0, 6)", 1, () -> bit(maker.lives(0, 6)));
        CHECK.due("lives(15, 4)", 1, () -> bit(maker.lives(15, 4)));
        maker.run(2);
        CHECK.due("v0 is written", 11, () -> maker.output(0));
        CHECK.due("v15 is written", 12, () -> maker.output(1));
    }

    private static void greatestAndLeastInt() {
        for (int number : row(MIN, MAX, -1, 0)) {
            for (int r : row(1, 8)) {
                RoomMaker maker = with(row(READ, 1), row(COPY, 2, 1), row(SET, 3, number), row(STORE, 4, 2),
                    row(LOAD, 5, 4), row(WRITE, 1), row(WRITE, 3), row(WRITE, 5));
                maker.give(number);
                maker.build(r);
                maker.run(8);
                for (int k = 0; k < 3; k++) {
                    int which = k;
                    CHECK.due(number + " in " + r + " registers, output(" + k + ")", number,
                        () -> maker.output(which));
                }
                CHECK.due(number + " in a cell", number, () -> maker.value(16));
            }
        }
    }

    private static void goesRound(int sort, int a, int b, int due) {
        for (int r : row(1, 8)) {
            RoomMaker maker = builtWith(r, row(SET, 1, a), row(SET, 2, b), row(sort, 0, 1, 2), row(WRITE, 0));
            maker.run(4);
            CHECK.due("sort " + sort + " of " + a + " and " + b + " in " + r + " registers", due,
                () -> maker.output(0));
        }
    }

    private static void addGoesRound() {
        goesRound(ADD, MAX, 1, MIN);
        goesRound(ADD, MIN, -1, MAX);
        goesRound(ADD, MIN, MIN, 0);
        goesRound(ADD, MAX, MAX, -2);
    }

    private static void subGoesRound() {
        goesRound(SUB, MIN, 1, MAX);
        goesRound(SUB, MAX, -1, MIN);
        goesRound(SUB, 0, MIN, MIN);
        goesRound(SUB, -2, MAX, MAX);
    }

    private static void mulGoesRound() {
        goesRound(MUL, MIN, -1, MIN);
        goesRound(MUL, 65536, 65536, 0);
        goesRound(MUL, MAX, MAX, 1);
        goesRound(MUL, MAX, 2, -2);
        goesRound(MUL, 46341, 46341, -2147479015);
    }

    private static void sixteenCells() {
        RoomMaker maker = new RoomMaker();
        for (int i = 0; i < 16; i++) {
            append(maker, row(SET, 0, i), row(SET, 1, MAX + i), row(STORE, 0, 1));
        }
        maker.build(2);
        maker.run(48);
        for (int i = 0; i < 16; i++) {
            int cell = i;
            CHECK.due("cell " + i, MAX + i, () -> maker.value(16 + cell));
        }
    }

    private static void valuesAreZeroAtFirst() {
        for (int r = 1; r <= 8; r++) {
            RoomMaker maker = new RoomMaker();
            for (int v = 1; v < 16; v++) {
                append(maker, row(SET, v, 7), row(WRITE, v));
            }
            maker.put(WRITE, 0, 0, 0);
            maker.build(r);
            maker.run(30);
            CHECK.due("v15 in " + r + " registers", 7, () -> maker.output(0));
            maker.run(1);
            CHECK.due("v0, which is never set, in " + r + " registers", 0, () -> maker.output(0));
        }
        RoomMaker all = new RoomMaker();
        for (int v = 0; v < 16; v++) {
            append(all, row(WRITE, v), row(SET, v, 7));
        }
        all.build(1);
        all.run(32);
        CHECK.due("sixteen are written", 16, () -> all.count(6));
        for (int k = 0; k < 16; k++) {
            int which = k;
            CHECK.due("v" + (15 - k) + " ahead of its first setting", 0, () -> all.output(which));
        }
    }

    private static void cellsAreZeroAtFirst() {
        RoomMaker maker = new RoomMaker();
        for (int i = 0; i < 16; i++) {
            append(maker, row(SET, 0, i), row(SET, 1, 9), row(LOAD, 1, 0), row(WRITE, 1));
        }
        maker.build(2);
        maker.run(64);
        CHECK.due("sixteen are written", 16, () -> maker.count(6));
        for (int k = 0; k < 16; k++) {
            int which = k;
            CHECK.due("cell " + (15 - k), 0, () -> maker.output(which));
        }
    }

    private static void atMostSixtyFour() {
        RoomMaker maker = with(row(SET, 1, 1));
        for (int i = 0; i < 62; i++) {
            maker.put(ADD, 0, 0, 1);
        }
        CHECK.due("the 64th", 64, () -> maker.put(WRITE, 0, 0, 0));
        CHECK.due("a 65th", NONE, () -> maker.put(WRITE, 1, 0, 0));
        maker.build(2);
        CHECK.due("v0 is read by the 64th", 126, () -> maker.span(0, true));
        CHECK.due("64 are done", 64, () -> maker.run(5000));
        CHECK.due("the 64th is the last that is done", 62, () -> maker.output(0));
        CHECK.due("the 65th is not there", 1, () -> maker.count(6));
    }

    private static void readWithoutInput() {
        for (int r : row(1, 8)) {
            RoomMaker maker = with(row(READ, 0), row(WRITE, 0), row(READ, 0), row(WRITE, 0), row(READ, 0),
                row(WRITE, 0), row(WRITE, 1));
            maker.give(6);
            maker.build(r);
            maker.run(2);
            CHECK.due("the one input", 6, () -> maker.output(0));
            maker.run(2);
            CHECK.due("without an input", 0, () -> maker.output(0));
            CHECK.due("no input waits", 0, () -> maker.count(8));
            maker.give(8);
            maker.run(2);
            CHECK.due("an input that came later", 8, () -> maker.output(0));
        }
    }

    /** Numbers, and the cells that they lead to. */
    private static final int[][] ADDRESSES = {
        {0, 0}, {1, 1}, {15, 15}, {16, 0}, {17, 1}, {21, 5}, {31, 15}, {32, 0}, {255, 15}, {256, 0},
        {-1, 15}, {-15, 1}, {-16, 0}, {-17, 15}, {MIN, 0}, {MIN + 1, 1}, {MAX, 15}, {MAX - 15, 0}};

    private static void loadGoesRoundTheCells() {
        for (int[] address : ADDRESSES) {
            for (int r : row(1, 8)) {
                RoomMaker maker = builtWith(r, row(SET, 0, address[1]), row(SET, 1, 50), row(STORE, 0, 1),
                    row(SET, 2, address[0]), row(LOAD, 3, 2), row(WRITE, 3));
                maker.run(6);
                CHECK.due("LOAD by " + address[0], 50, () -> maker.output(0));
            }
        }
    }

    private static void storeGoesRoundTheCells() {
        for (int[] address : ADDRESSES) {
            RoomMaker maker = builtWith(1, row(SET, 0, address[0]), row(SET, 1, 50), row(STORE, 0, 1));
            maker.run(3);
            for (int i = 0; i < 16; i++) {
                int cell = i;
                CHECK.due("cell " + i + " behind STORE by " + address[0], i == address[1] ? 50 : 0,
                    () -> maker.value(16 + cell));
            }
        }
    }

    private static void branches(int sort, int a, int b, boolean taken) {
        for (int r : row(1, 8)) {
            RoomMaker maker = builtWith(r, row(SET, 1, a), row(SET, 2, b), row(sort, 1, 2, 4), row(WRITE, 1));
            CHECK.due("sort " + sort + " of " + a + " and " + b, taken ? 3 : 4, () -> maker.run(9));
        }
    }

    private static void lessAtItsEdges() {
        branches(LESS, 4, 5, true);
        branches(LESS, 5, 5, false);
        branches(LESS, 6, 5, false);
        branches(LESS, -1, 0, true);
        branches(LESS, 0, -1, false);
        branches(LESS, MIN, MAX, true);
        branches(LESS, MAX, MIN, false);
        branches(LESS, MIN, MIN, false);
        branches(LESS, MIN, MIN + 1, true);
    }

    private static void sameAtItsEdges() {
        branches(SAME, 5, 5, true);
        branches(SAME, 4, 5, false);
        branches(SAME, 6, 5, false);
        branches(SAME, 0, MIN, false);
        branches(SAME, MIN, MIN, true);
        branches(SAME, MIN, MAX, false);
        branches(SAME, 1 << 16, 1 << 17, false);
    }

    private static void goesToTheFirst() {
        for (int[] last : new int[][] {row(GO, 0), row(LESS, 0, 1, 0), row(SAME, 0, 0, 0)}) {
            RoomMaker maker = builtWith(2, row(WRITE, 0), row(SET, 1, 1), last);
            maker.run(3);
            CHECK.due("the first comes next", 0, () -> maker.count(1));
            CHECK.due("it is not at the end", 0, () -> maker.count(7));
            CHECK.due("it goes on", 4, () -> maker.run(4));
            CHECK.due("the first is done again and again", 3, () -> maker.count(6));
        }
    }

    private static void atTheEnd(RoomMaker maker, int instructions) {
        CHECK.due("what comes next", instructions, () -> maker.count(1));
        CHECK.due("it is at the end", 1, () -> maker.count(7));
        CHECK.illegalState("run at the end", () -> maker.run(1));
    }

    private static void goesToTheEnd() {
        for (int[] first : new int[][] {row(GO, 3), row(LESS, 0, 1, 3), row(SAME, 0, 0, 3)}) {
            RoomMaker maker = builtWith(2, row(SET, 1, 1), first, row(WRITE, 1));
            CHECK.due("to the end from the midst", 2, () -> maker.run(9));
            CHECK.due("what it leaps over is not done", 0, () -> maker.count(6));
            atTheEnd(maker, 3);
        }
        for (int[] last : new int[][] {row(GO, 64), row(LESS, 0, 1, 64), row(SAME, 0, 0, 64)}) {
            RoomMaker maker = fullWith(last);
            maker.build(2);
            CHECK.due("all 64", 64, () -> maker.run(5000));
            atTheEnd(maker, 64);
        }
    }

    private static void endsBehindTheLast() {
        for (int[] last : new int[][] {row(WRITE, 0), row(LESS, 0, 0, 0), row(SAME, 0, 1, 0), row(COPY, 1, 1)}) {
            RoomMaker maker = builtWith(2, row(SET, 1, 1), last);
            CHECK.due("up to the end", 2, () -> maker.run(9));
            atTheEnd(maker, 2);
        }
    }

    /** An instruction of each sort with v1, v2 and v3 where values stand. */
    private static final int[][] EACH_SORT = {
        {SET, 1, 2, 0}, {ADD, 1, 2, 3}, {SUB, 1, 2, 3}, {MUL, 1, 2, 3}, {COPY, 1, 2, 0}, {READ, 1, 0, 0},
        {LOAD, 1, 2, 0}, {STORE, 1, 2, 0}, {WRITE, 1, 0, 0}, {GO, 1, 0, 0}, {LESS, 1, 2, 3}, {SAME, 1, 2, 3}};

    /** The values that these read, a bit each. */
    private static final int[] READ_BY_EACH = {
        0b0000, 0b1100, 0b1100, 0b1100, 0b0100, 0b0000, 0b0100, 0b0110, 0b0010, 0b0000, 0b0110, 0b0110};

    private static RoomMaker ofSort(int sort) {
        return builtWith(3, EACH_SORT[sort], row(SET, 9, 2), row(SET, 9, 2), row(SET, 9, 2));
    }

    private static void whatIsRead() {
        for (int sort = 0; sort < 12; sort++) {
            RoomMaker maker = ofSort(sort);
            for (int v = 0; v < 16; v++) {
                int value = v;
                CHECK.due("sort " + sort + " reads v" + v, READ_BY_EACH[sort] >> v & 1,
                    () -> bit(maker.lives(value, 0)));
                CHECK.due("v" + v + " lives behind sort " + sort, 0, () -> bit(maker.lives(value, 1)));
            }
        }
    }

    private static void whatIsSet() {
        for (int sort = 0; sort < 12; sort++) {
            RoomMaker maker = ofSort(sort);
            int due = sort <= 6 ? 1 : sort == GO ? NONE : 0;
            CHECK.due("the span of x of sort " + sort + " begins", due, () -> maker.span(1, false));
            CHECK.due("the span of x of sort " + sort + " ends", due, () -> maker.span(1, true));
        }
    }

    private static void firstAndLastPoint() {
        RoomMaker maker = fullWith(SET, 1, 1);
        maker.build(1);
        CHECK.due("point 0 is ahead of the first", 0, () -> maker.span(0, false));
        CHECK.due("point 127 is behind the 64th", 127, () -> maker.span(1, true));
        CHECK.due("v0 lives at point 0", 1, () -> bit(maker.lives(0, 0)));
        CHECK.due("v1 does not live at point 127", 0, () -> bit(maker.lives(1, 127)));
        RoomMaker round = fullWith(GO, 0);
        round.build(1);
        CHECK.due("v0 lives at point 127", 1, () -> bit(round.lives(0, 127)));
        CHECK.due("its span goes there", 127, () -> round.span(0, true));
    }

    private static void livesOnlyAt(RoomMaker maker, int v, int... points) {
        int at = 0;
        int all = 2 * maker.count(0);
        for (int point = 0; point < all; point++) {
            boolean due = at < points.length && points[at] == point;
            int here = point;
            CHECK.due("lives(" + v + ", " + point + ")", bit(due), () -> bit(maker.lives(v, here)));
            at += due ? 1 : 0;
        }
    }

    private static void waysThatAreNeverGone() {
        livesOnlyAt(builtWith(1, row(LESS, 0, 0, 2), row(GO, 3), row(WRITE, 5)), 5, 0, 1, 4);
        livesOnlyAt(builtWith(1, row(SAME, 0, 0, 2), row(WRITE, 5), row(GO, 3)), 5, 0, 1, 2);
        livesOnlyAt(builtWith(1, row(LESS, 0, 0, 2), row(WRITE, 5), row(GO, 3)), 5, 0, 1, 2);
        livesOnlyAt(builtWith(1, row(SAME, 0, 0, 2), row(GO, 3), row(WRITE, 5)), 5, 0, 1, 4);
        livesOnlyAt(builtWith(1, row(LESS, 0, 5, 0)), 5, 0, 1);
        livesOnlyAt(builtWith(1, row(SAME, 5, 0, 0)), 5, 0, 1);
    }

    private static void waysThatLeadNowhere() {
        livesOnlyAt(builtWith(1, row(GO, 0), row(WRITE, 5)), 5, 2);
        livesOnlyAt(builtWith(1, row(GO, 1), row(GO, 0), row(WRITE, 5)), 5, 4);
        livesOnlyAt(builtWith(1, row(GO, 2), row(WRITE, 5)), 5, 2);
        livesOnlyAt(builtWith(1, row(WRITE, 5), row(SET, 1, 1)), 5, 0);
        livesOnlyAt(builtWith(1, row(GO, 0)), 5);
        livesOnlyAt(builtWith(1, row(GO, 2), row(GO, 3), row(GO, 1), row(WRITE, 5)), 5, 0, 1, 2, 3, 4, 5, 6);
    }

    private static void longWayAgainstTheOrder() {
        RoomMaker maker = with(row(GO, 63), row(WRITE, 5), row(GO, 64));
        for (int i = 3; i < 64; i++) {
            maker.put(GO, i == 3 ? 1 : i - 1, 0, 0);
        }
        maker.build(1);
        for (int point = 0; point < 128; point++) {
            int here = point;
            boolean due = point < 3 || point > 5;
            CHECK.due("lives(5, " + point + ")", bit(due), () -> bit(maker.lives(5, here)));
        }
    }

    private static void settingEndsTheWay() {
        livesOnlyAt(builtWith(1, row(SET, 0, 1), row(SET, 0, 2), row(WRITE, 0)), 0, 3, 4);
        livesOnlyAt(builtWith(1, row(LESS, 1, 1, 2), row(SET, 0, 1), row(WRITE, 0)), 0, 0, 1, 3, 4);
        livesOnlyAt(builtWith(1, row(WRITE, 0), row(SET, 0, 1), row(GO, 0)), 0, 0, 3, 4, 5);
        livesOnlyAt(builtWith(1, row(WRITE, 0), row(GO, 0)), 0, 0, 1, 2, 3);
        for (int sort = 0; sort <= 6; sort++) {
            int[] setting = EACH_SORT[sort];
            livesOnlyAt(builtWith(1, setting, row(WRITE, 1)), 1, 1, 2);
        }
    }

    private static void readingAndSettingAtOnce() {
        for (int[] both : new int[][] {row(ADD, 0, 0, 1), row(SUB, 0, 1, 0), row(MUL, 0, 0, 0), row(COPY, 0, 0),
            row(LOAD, 0, 0)}) {
            livesOnlyAt(builtWith(1, both), 0, 0);
            livesOnlyAt(builtWith(1, both, row(WRITE, 0)), 0, 0, 1, 2);
            livesOnlyAt(builtWith(1, row(SET, 0, 1), both), 0, 1, 2);
        }
    }

    private static void spanIs(RoomMaker maker, int v, int first, int last) {
        CHECK.due("span(" + v + ", false)", first, () -> maker.span(v, false));
        CHECK.due("span(" + v + ", true)", last, () -> maker.span(v, true));
    }

    private static void spanHasHoles() {
        RoomMaker hole = builtWith(1, row(WRITE, 0), row(SET, 1, 1), row(WRITE, 2), row(SET, 0, 2), row(WRITE, 0));
        livesOnlyAt(hole, 0, 0, 7, 8);
        spanIs(hole, 0, 0, 8);
        spanIs(builtWith(1, row(WRITE, 0)), 0, 0, 0);
        spanIs(builtWith(1, row(GO, 2), row(WRITE, 0)), 0, 2, 2);
        RoomMaker apart = builtWith(1, row(WRITE, 0), row(GO, 4), row(WRITE, 0), row(SET, 0, 1), row(WRITE, 1));
        livesOnlyAt(apart, 0, 0, 4);
        spanIs(apart, 0, 0, 7);
    }

    private static void spanHasWhereItIsSet() {
        spanIs(builtWith(1, row(SET, 0, 1)), 0, 1, 1);
        spanIs(builtWith(1, row(SET, 0, 1), row(SET, 0, 2)), 0, 1, 3);
        spanIs(builtWith(1, row(SET, 0, 1), row(SET, 0, 2), row(WRITE, 0)), 0, 1, 4);
        spanIs(builtWith(1, row(WRITE, 0), row(SET, 0, 1)), 0, 0, 3);
        spanIs(builtWith(1, row(GO, 2), row(SET, 0, 1)), 0, 3, 3);
        RoomMaker full = fullWith(READ, 1);
        full.build(1);
        spanIs(full, 1, 127, 127);
    }

    private static void spanWithoutPoint() {
        RoomMaker numbersOnly = builtWith(1, row(SET, 0, 5), row(GO, 3), row(LESS, 0, 0, 4), row(WRITE, 0));
        for (int v = 1; v < 16; v++) {
            int value = v;
            spanIs(numbersOnly, v, NONE, NONE);
            CHECK.due("place(" + v + ")", NONE, () -> numbersOnly.place(value));
        }
        spanIs(builtWith(1, row(GO, 0)), 0, NONE, NONE);
        spanIs(builtWith(1), 0, NONE, NONE);
    }

    private static void placesAre(RoomMaker maker, int... valuesAndPlaces) {
        for (int i = 0; i < valuesAndPlaces.length; i += 2) {
            int v = valuesAndPlaces[i];
            CHECK.due("place(" + v + ")", valuesAndPlaces[i + 1], () -> maker.place(v));
        }
    }

    private static void byFirstPoint() {
        placesAre(builtWith(2, row(SET, 5, 1), row(SET, 2, 1), row(WRITE, 5), row(WRITE, 2)), 5, 0, 2, 1);
        placesAre(builtWith(2, row(SET, 1, 1), row(WRITE, 9), row(WRITE, 1)), 9, 0, 1, 1);
    }

    private static void thenByNumber() {
        placesAre(builtWith(3, row(LESS, 9, 2, 1), row(WRITE, 4)), 2, 0, 4, 1, 9, 2);
        placesAre(builtWith(2, row(LESS, 15, 0, 1)), 0, 0, 15, 1);
    }

    private static void freeBehindTheEnd() {
        RoomMaker touching = builtWith(2, row(COPY, 1, 0), row(COPY, 2, 1), row(WRITE, 2));
        spanIs(touching, 0, 0, 0);
        spanIs(touching, 1, 1, 2);
        placesAre(touching, 0, 0, 1, 0, 2, 0);
        placesAre(builtWith(2, row(SET, 0, 1), row(SET, 1, 1), row(SET, 2, 1)), 0, 0, 1, 0, 2, 0);
    }

    private static int[][] endsWhereAnotherBegins() {
        return new int[][] {row(SET, 0, 1), row(GO, 3), row(ADD, 2, 0, 1)};
    }

    private static void notFreeAtTheEnd() {
        RoomMaker two = builtWith(2, endsWhereAnotherBegins());
        spanIs(two, 0, 1, 4);
        spanIs(two, 1, 4, 4);
        placesAre(two, 0, 0, 1, 1, 2, 0);
        placesAre(builtWith(1, endsWhereAnotherBegins()), 0, 0, 1, 16, 2, 0);
    }

    private static RoomMaker atOnce(int values) {
        RoomMaker maker = new RoomMaker();
        for (int v = 0; v < values; v++) {
            maker.put(SET, v, 1, 0);
        }
        for (int v = 0; v < values; v++) {
            maker.put(WRITE, v, 0, 0);
        }
        return maker;
    }

    private static void oneToEightRegisters() {
        for (int r = 1; r <= 8; r++) {
            int registers = r;
            RoomMaker fitting = atOnce(r);
            CHECK.due(r + " values in as many registers", 0, () -> fitting.build(registers));
            placesAre(fitting, r - 1, r - 1);
            RoomMaker oneMore = atOnce(r + 1);
            CHECK.due("one more than " + r + " registers", 1, () -> oneMore.build(registers));
            placesAre(oneMore, r - 1, r - 1, r, 16);
        }
    }

    private static void leastFreeRegister() {
        placesAre(builtWith(3, row(SET, 0, 1), row(SET, 1, 1), row(SET, 2, 1), row(WRITE, 1), row(WRITE, 2),
            row(SET, 3, 1), row(WRITE, 3), row(WRITE, 0)), 0, 0, 1, 1, 2, 2, 3, 1);
        placesAre(builtWith(3, row(SET, 0, 1), row(SET, 1, 1), row(SET, 2, 1), row(WRITE, 1), row(WRITE, 0),
            row(SET, 3, 1), row(WRITE, 3), row(WRITE, 2)), 3, 0);
        placesAre(builtWith(8, row(SET, 0, 1)), 0, 0);
    }

    private static void thisOneEndsLast() {
        RoomMaker maker = with(row(SET, 0, 1), row(SET, 1, 1), row(WRITE, 0), row(WRITE, 1));
        CHECK.due("build(1)", 1, () -> maker.build(1));
        placesAre(maker, 0, 0, 1, 16);
        placesAre(builtWith(2, row(SET, 2, 1), row(SET, 1, 1), row(SET, 0, 1), row(WRITE, 2), row(WRITE, 1),
            row(WRITE, 0)), 2, 0, 1, 1, 0, 16);
    }

    private static void anotherOneEndsLast() {
        RoomMaker maker = with(row(SET, 0, 1), row(SET, 1, 1), row(WRITE, 1), row(WRITE, 0));
        CHECK.due("build(1)", 1, () -> maker.build(1));
        placesAre(maker, 0, 16, 1, 0);
        placesAre(builtWith(2, row(SET, 0, 1), row(SET, 1, 1), row(SET, 2, 1), row(WRITE, 2), row(WRITE, 0),
            row(WRITE, 1)), 0, 0, 1, 16, 2, 1);
        placesAre(builtWith(2, row(SET, 0, 1), row(SET, 1, 1), row(SET, 2, 1), row(WRITE, 2), row(WRITE, 1),
            row(WRITE, 0)), 0, 16, 1, 1, 2, 0);
    }

    private static void noneIsDrivenOutTwice() {
        placesAre(builtWith(1, row(SET, 0, 1), row(SET, 1, 1), row(SET, 2, 1), row(WRITE, 2), row(WRITE, 1),
            row(WRITE, 0)), 0, 16, 1, 17, 2, 0);
        placesAre(builtWith(1, row(SET, 0, 1), row(WRITE, 1), row(SET, 2, 1), row(WRITE, 2), row(WRITE, 0)),
            1, 0, 0, 16, 2, 0);
    }

    private static void ofThoseThatEndAtOnce() {
        placesAre(builtWith(1, row(SET, 0, 1), row(SET, 1, 1), row(LESS, 0, 1, 3)), 0, 0, 1, 16);
        placesAre(builtWith(1, row(SET, 1, 1), row(SET, 0, 1), row(LESS, 0, 1, 3)), 0, 0, 1, 16);
        int[][] twoHolders = {row(SET, 4, 1), row(SET, 3, 1), row(SET, 5, 1), row(WRITE, 5), row(LESS, 3, 4, 5)};
        placesAre(builtWith(2, twoHolders), 4, 16, 3, 1, 5, 0);
        int[][] otherWayRound = {row(SET, 3, 1), row(SET, 4, 1), row(SET, 5, 1), row(WRITE, 5), row(LESS, 3, 4, 5)};
        placesAre(builtWith(2, otherWayRound), 3, 0, 4, 16, 5, 1);
    }

    private static void stackPlacesInOrder() {
        RoomMaker maker = new RoomMaker();
        for (int v = 0; v < 16; v++) {
            maker.put(WRITE, v, 0, 0);
        }
        CHECK.due("sixteen values in one register", 15, () -> maker.build(1));
        placesAre(maker, 0, 0);
        for (int v = 1; v < 16; v++) {
            placesAre(maker, v, 15 + v);
        }
    }

    private static void stackPlacesAreNotUsedAgain() {
        RoomMaker maker = with(row(SET, 0, 1), row(SET, 1, 1), row(WRITE, 0), row(WRITE, 1),
            row(SET, 2, 1), row(SET, 3, 1), row(WRITE, 2), row(WRITE, 3));
        CHECK.due("build(1)", 2, () -> maker.build(1));
        placesAre(maker, 0, 0, 1, 16, 2, 0, 3, 17);
        CHECK.due("built again", 2, () -> maker.build(1));
        placesAre(maker, 0, 0, 1, 16, 2, 0, 3, 17);
    }

    private static void stackPlaceFromTheBeginning() {
        RoomMaker maker = builtWith(1, row(SET, 0, 8), row(SET, 1, 2), row(WRITE, 1), row(WRITE, 0));
        maker.run(1);
        CHECK.due("v0 is stored though the register is still free", 1, () -> maker.count(4));
        CHECK.due("v0 is in its stack place", 8, () -> maker.value(0));
        CHECK.due("the register has nothing yet", 0, () -> maker.value(1));
        maker.run(3);
        CHECK.due("v0 is loaded once", 1, () -> maker.count(3));
        CHECK.due("and is what it was", 8, () -> maker.output(0));
    }

    /** One instruction on v1, v2 and v3, which have stack places, and on v0, which has the register. */
    private static RoomMaker onStack(int[] instruction) {
        RoomMaker maker = with(instruction);
        append(maker, row(WRITE, 0), row(WRITE, 1), row(WRITE, 2), row(WRITE, 3));
        maker.build(1);
        maker.run(1);
        return maker;
    }

    private static void loads(int due, int... instruction) {
        RoomMaker maker = onStack(instruction);
        CHECK.due("v0 has the register", 0, () -> maker.place(0));
        CHECK.due("loads of sort " + instruction[0], due, () -> maker.count(3));
    }

    private static void stores(int due, int... instruction) {
        RoomMaker maker = onStack(instruction);
        CHECK.due("v0 has the register", 0, () -> maker.place(0));
        CHECK.due("stores of sort " + instruction[0], due, () -> maker.count(4));
    }

    private static void loadsOfEachSort() {
        int[] due = {0, 2, 2, 2, 1, 0, 1, 2, 1, 0, 2, 2};
        for (int sort = 0; sort < 12; sort++) {
            loads(due[sort], EACH_SORT[sort]);
        }
        loads(1, ADD, 1, 0, 2);
        loads(1, SUB, 1, 2, 0);
        loads(0, MUL, 1, 0, 0);
        loads(0, COPY, 1, 0);
        loads(0, LOAD, 1, 0);
        loads(1, STORE, 0, 1);
        loads(1, STORE, 1, 0);
        loads(0, WRITE, 0);
        loads(1, LESS, 0, 1, 1);
        loads(1, SAME, 1, 0, 1);
    }

    private static void loadsOfTheSameTwice() {
        loads(2, ADD, 1, 2, 2);
        loads(2, SUB, 1, 2, 2);
        loads(2, MUL, 0, 2, 2);
        loads(2, ADD, 1, 1, 1);
        loads(2, STORE, 1, 1);
        loads(2, LESS, 1, 1, 1);
        loads(2, SAME, 1, 1, 1);
    }

    private static void storesOfEachSort() {
        for (int sort = 0; sort < 12; sort++) {
            stores(sort <= 6 ? 1 : 0, EACH_SORT[sort]);
        }
        stores(0, SET, 0, 5);
        stores(0, ADD, 0, 1, 2);
        stores(0, COPY, 0, 1);
        stores(0, READ, 0);
        stores(0, LOAD, 0, 1);
        stores(1, ADD, 1, 1, 1);
    }

    private static void copyWithinARegister() {
        RoomMaker maker = builtWith(2, row(SET, 0, 5), row(COPY, 1, 0), row(WRITE, 1));
        placesAre(maker, 0, 0, 1, 0);
        maker.run(2);
        CHECK.due("copies left out", 1, () -> maker.count(5));
        CHECK.due("v1 has what v0 had", 5, () -> maker.value(1));
        RoomMaker second = builtWith(2, row(SET, 9, 1), row(SET, 0, 5), row(COPY, 1, 0), row(WRITE, 1),
            row(WRITE, 9));
        placesAre(second, 0, 1, 1, 1);
        second.run(5);
        CHECK.due("left out in register 1", 1, () -> second.count(5));
        CHECK.due("v1 is written", 5, () -> second.output(1));
        RoomMaker itself = builtWith(1, row(SET, 0, 5), row(COPY, 0, 0), row(WRITE, 0));
        itself.run(3);
        CHECK.due("a copy onto itself is left out", 1, () -> itself.count(5));
        CHECK.due("v0 is what it was", 5, () -> itself.output(0));
    }

    private static void leftOutIsDone() {
        RoomMaker maker = builtWith(1, row(SET, 0, 5), row(COPY, 1, 0), row(WRITE, 1));
        maker.run(1);
        CHECK.due("the copy is one instruction", 1, () -> maker.run(1));
        CHECK.due("two are done", 2, () -> maker.count(2));
        CHECK.due("the third comes next", 2, () -> maker.count(1));
        RoomMaker last = builtWith(1, row(SET, 0, 5), row(COPY, 1, 0));
        CHECK.due("the copy may be the last", 2, () -> last.run(9));
        CHECK.due("then it is at the end", 1, () -> last.count(7));
    }

    private static void copyCosts(String what, int loads, int stores, int x, int y) {
        RoomMaker maker = onStack(row(COPY, x, y));
        CHECK.due("loads of a copy " + what, loads, () -> maker.count(3));
        CHECK.due("stores of a copy " + what, stores, () -> maker.count(4));
        CHECK.due("a copy " + what + " is not left out", 0, () -> maker.count(5));
    }

    private static void copiesThatAreNotLeftOut() {
        copyCosts("within the stack", 1, 1, 1, 2);
        placesAre(onStack(row(COPY, 1, 1)), 0, 0, 1, 16, 2, 17);
        copyCosts("of the first stack place onto itself", 1, 1, 1, 1);
        copyCosts("of another stack place onto itself", 1, 1, 2, 2);
        copyCosts("into the register", 1, 0, 0, 1);
        copyCosts("out of the register", 0, 1, 1, 0);
        RoomMaker sameNumber = builtWith(1, row(COPY, 1, 0), row(WRITE, 0), row(WRITE, 1));
        placesAre(sameNumber, 0, 0, 1, 16);
        sameNumber.run(1);
        CHECK.due("register 0 and stack place 0 are two", 0, () -> sameNumber.count(5));
        RoomMaker twoRegisters = builtWith(2, row(SET, 0, 5), row(COPY, 1, 0), row(WRITE, 0), row(WRITE, 1));
        twoRegisters.run(4);
        CHECK.due("nor is one between two registers", 0, () -> twoRegisters.count(5));
        CHECK.due("which copies", 5, () -> twoRegisters.output(0));
    }

    private static void runningBeginsWithZero() {
        RoomMaker maker = new RoomMaker();
        for (int v = 0; v < 16; v++) {
            maker.put(SET, v, 16 + v, 0);
        }
        for (int v = 0; v < 16; v++) {
            maker.put(STORE, v, v, 0);
        }
        maker.build(8);
        CHECK.due("all are done", 32, () -> maker.run(5000));
        placesAre(maker, 0, 0, 15, 23);
        CHECK.due("a stack place is used", 31, () -> maker.value(15));
        CHECK.due("a register is used", 16, () -> maker.value(0));
        CHECK.due("a cell is used", 31, () -> maker.value(31));
        maker.build(4);
        for (int v = 0; v < 32; v++) {
            int which = v;
            CHECK.due("value(" + v + ") when a run begins", 0, () -> maker.value(which));
        }
    }
}
