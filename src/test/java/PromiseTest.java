/** Each promise of the document by itself: ordinary inputs, the edges it names, and wrong inputs. */
public final class PromiseTest extends Programs {
    private static final Check CHECK = new Check();

    public static void main(String[] args) {
        newObject();
        putAnswers();
        putRefuses();
        putForgetsWhatWasBuilt();
        clearForgets();
        giveKeepsThirtyTwo();
        buildAnswers();
        buildRefuses();
        spanTells();
        spanOfDeadAndUnreachable();
        livesTells();
        livesRoundALoop();
        livesAnew();
        placeTells();
        placeBreaksTies();
        placeFreesOnlyBehindTheEnd();
        pressureTells();
        runDoes();
        runReckons();
        runRefuses();
        restartGoesBack();
        valueTells();
        outputKeepsSixteen();
        countTells();
        countStackWork();
        countCopiesLeftOut();
        nothingIsBuilt();
        CHECK.end();
    }

    private static void newObject() {
        RoomMaker maker = new RoomMaker();
        CHECK.due("1: instructions of a new object", 0, () -> maker.count(0));
        CHECK.due("1: inputs of a new object", 0, () -> maker.count(8));
        CHECK.due("1: what comes next in a new object", NONE, () -> maker.count(1));
        CHECK.due("1: a new object has nothing to restart", 0, () -> bit(maker.restart()));
        CHECK.due("1: a new object builds", 0, () -> maker.build(1));
    }

    private static void putAnswers() {
        RoomMaker maker = new RoomMaker();
        int[][] edges = {
            row(SET, 15, MIN, 0), row(SET, 0, MAX, 0), row(ADD, 15, 15, 15),
            row(SUB, 0, 15, 0), row(MUL, 15, 0, 15), row(COPY, 15, 15, 0), row(READ, 15, 0, 0),
            row(LOAD, 15, 15, 0), row(STORE, 15, 15, 0), row(WRITE, 15, 0, 0), row(GO, 64, 0, 0),
            row(GO, 0, 0, 0), row(LESS, 15, 15, 64), row(SAME, 15, 15, 0)};
        for (int i = 0; i < edges.length; i++) {
            int[] edge = edges[i];
            CHECK.due("2: put at an edge", i + 1, () -> maker.put(edge[0], edge[1], edge[2], edge[3]));
        }
        for (int i = edges.length; i < 64; i++) {
            CHECK.due("2: put", i + 1, () -> maker.put(WRITE, 0, 0, 0));
        }
        CHECK.due("2: the 65th put", NONE, () -> maker.put(WRITE, 0, 0, 0));
        CHECK.illegalArgument("2: a wrong 65th put", () -> maker.put(12, 0, 0, 0));
        CHECK.due("2: instructions in the end", 64, () -> maker.count(0));
    }

    private static void putRefuses() {
        RoomMaker maker = new RoomMaker();
        int[][] wrong = {
            row(-1, 0, 0, 0), row(12, 0, 0, 0), row(MIN, 0, 0, 0), row(MAX, 0, 0, 0),
            row(SET, 16, 0, 0), row(SET, -1, 0, 0), row(SET, 0, 0, 1), row(SET, 0, 0, -1),
            row(COPY, 16, 0, 0), row(COPY, 0, 16, 0), row(COPY, 0, -1, 0), row(COPY, 0, 0, 1),
            row(READ, 16, 0, 0), row(READ, -1, 0, 0), row(READ, 0, 1, 0), row(READ, 0, 0, 1),
            row(LOAD, 16, 0, 0), row(LOAD, 0, 16, 0), row(LOAD, 0, 0, 1),
            row(STORE, 16, 0, 0), row(STORE, 0, 16, 0), row(STORE, 0, 0, 1),
            row(WRITE, 16, 0, 0), row(WRITE, 0, 1, 0), row(WRITE, 0, 0, 1),
            row(GO, 65, 0, 0), row(GO, -1, 0, 0), row(GO, 0, 1, 0), row(GO, 0, 0, 1)};
        for (int[] each : wrong) {
            refused(maker, each);
        }
        for (int sort : row(ADD, SUB, MUL)) {
            for (int number : row(-1, 16)) {
                refused(maker, row(sort, number, 0, 0));
                refused(maker, row(sort, 0, number, 0));
                refused(maker, row(sort, 0, 0, number));
            }
        }
        for (int sort : row(LESS, SAME)) {
            refused(maker, row(sort, 16, 0, 0));
            refused(maker, row(sort, 0, 16, 0));
            refused(maker, row(sort, 0, 0, 65));
            refused(maker, row(sort, 0, 0, -1));
        }
        CHECK.due("2: instructions when all were refused", 0, () -> maker.count(0));
    }

    private static void refused(RoomMaker maker, int[] row) {
        CHECK.illegalArgument("2: put(" + row[0] + ", " + row[1] + ", " + row[2] + ", " + row[3] + ")",
            () -> maker.put(row[0], row[1], row[2], row[3]));
    }

    private static void putForgetsWhatWasBuilt() {
        RoomMaker maker = with(row(SET, 0, 5), row(WRITE, 0));
        maker.build(1);
        CHECK.illegalArgument("2: a put that throws", () -> maker.put(SET, 16, 0, 0));
        CHECK.due("2: it leaves what was built", 0, () -> maker.count(1));
        maker.put(WRITE, 0, 0, 0);
        CHECK.due("2: what was built is gone", NONE, () -> maker.count(1));
        for (int i = 3; i < 64; i++) {
            maker.put(WRITE, 0, 0, 0);
        }
        maker.build(1);
        CHECK.due("2: a put without room", NONE, () -> maker.put(WRITE, 0, 0, 0));
        CHECK.due("2: what was built is gone then too", NONE, () -> maker.count(1));
    }

    private static void clearForgets() {
        RoomMaker maker = with(row(READ, 0), row(WRITE, 0), row(WRITE, 0));
        maker.give(4);
        maker.build(1);
        CHECK.due("3: clear", 3, maker::clear);
        CHECK.due("3: instructions behind it", 0, () -> maker.count(0));
        CHECK.due("3: inputs behind it", 0, () -> maker.count(8));
        CHECK.due("3: what was built is gone", 0, () -> bit(maker.restart()));
        CHECK.due("3: clear again", 0, maker::clear);
        maker.put(READ, 1, 0, 0);
        maker.give(6);
        maker.build(1);
        maker.run(1);
        CHECK.due("3: an input given behind it is the next one", 6, () -> maker.value(1));
    }

    private static void giveKeepsThirtyTwo() {
        RoomMaker maker = with(row(READ, 0), row(WRITE, 0), row(GO, 0));
        for (int i = 1; i <= 32; i++) {
            int number = i;
            CHECK.due("4: give", i, () -> maker.give(100 + number));
        }
        CHECK.due("4: the 33rd that waits", NONE, () -> maker.give(1));
        maker.build(1);
        CHECK.due("4: build leaves the inputs", 32, () -> maker.count(8));
        maker.run(4);
        CHECK.due("4: inputs that wait", 30, () -> maker.count(8));
        CHECK.due("4: the first in comes first", 101, () -> maker.output(0));
        CHECK.due("4: room again", 31, () -> maker.give(MIN));
        CHECK.due("4: room again", 32, () -> maker.give(-5));
        CHECK.due("4: no room again", NONE, () -> maker.give(1));
        maker.run(3 * 32 + 1);
        CHECK.due("4: the last one", -5, () -> maker.output(0));
        CHECK.due("4: the one ahead of it", MIN, () -> maker.output(1));
        CHECK.due("4: the one that was refused never came", 132, () -> maker.output(2));
        maker.run(3);
        CHECK.due("4: without an input it is 0", 0, () -> maker.output(0));
        CHECK.due("4: none waits", 0, () -> maker.count(8));
    }

    private static void buildAnswers() {
        RoomMaker maker = threeAtOnce();
        CHECK.due("5: three values in one register", 2, () -> maker.build(1));
        CHECK.due("5: three values in two registers", 1, () -> maker.build(2));
        CHECK.due("5: three values in three registers", 0, () -> maker.build(3));
        CHECK.due("5: three values in eight registers", 0, () -> maker.build(8));
        maker.run(6);
        maker.build(8);
        CHECK.due("5: a run begins", 0, () -> maker.count(1));
        CHECK.due("5: nothing is done", 0, () -> maker.count(2));
        CHECK.due("5: nothing is put out", 0, () -> maker.output(0));
        CHECK.due("5: the registers are 0", 0, () -> maker.value(2));
    }

    private static void buildRefuses() {
        RoomMaker maker = threeAtOnce();
        maker.build(2);
        for (int r : row(0, 9, -1, MIN, MAX)) {
            CHECK.illegalArgument("5: build(" + r + ")", () -> maker.build(r));
        }
        CHECK.due("5: what was built stays when it throws", 0, () -> maker.count(1));
        CHECK.due("5: to the end one may go", 0, () -> with(row(GO, 1)).build(1));
        CHECK.illegalState("5: behind the end nothing is", () -> with(row(GO, 2)).build(1));
        CHECK.illegalState("5: the same by LESS", () -> with(row(LESS, 0, 0, 2)).build(1));
        CHECK.illegalState("5: the same by SAME", () -> with(row(GO, 2), row(SAME, 0, 0, 3)).build(1));
        CHECK.illegalArgument("5: r is looked at first", () -> with(row(GO, 2)).build(9));
        CHECK.due("5: numbers of SET lead nowhere", 0, () -> with(row(SET, 9, 99)).build(1));
        RoomMaker astray = with(row(GO, 2));
        CHECK.illegalState("5: astray", () -> astray.build(1));
        CHECK.due("5: then nothing is built", NONE, astray::pressure);
        astray.put(WRITE, 0, 0, 0);
        CHECK.due("5: one more and it leads to the end", 0, () -> astray.build(1));
    }

    private static void spanIs(RoomMaker maker, int v, int first, int last) {
        CHECK.due("6: the first point of v" + v, first, () -> maker.span(v, false));
        CHECK.due("6: the last point of v" + v, last, () -> maker.span(v, true));
    }

    private static void spanTells() {
        RoomMaker maker = with(row(SET, 0, 5), row(SET, 1, 3), row(ADD, 2, 0, 1), row(STORE, 2, 0),
            row(LOAD, 3, 2), row(WRITE, 4));
        spanIs(maker, 0, NONE, NONE);
        maker.build(2);
        spanIs(maker, 0, 1, 6);
        spanIs(maker, 1, 3, 4);
        spanIs(maker, 2, 5, 8);
        spanIs(maker, 3, 9, 9);
        spanIs(maker, 4, 0, 10);
        spanIs(maker, 15, NONE, NONE);
        CHECK.outOfBounds("6: no value 16", () -> maker.span(16, false));
        CHECK.outOfBounds("6: no value -1", () -> maker.span(-1, true));
        CHECK.outOfBounds("6: no value 16 of a new object", () -> new RoomMaker().span(16, true));
    }

    private static void spanOfDeadAndUnreachable() {
        RoomMaker hole = with(row(SET, 0, 1), row(WRITE, 0), row(SET, 1, 1), row(SET, 0, 2), row(WRITE, 0));
        hole.build(1);
        spanIs(hole, 0, 1, 8);
        RoomMaker unreachable = with(row(GO, 2), row(WRITE, 3), row(SET, 3, 1));
        unreachable.build(1);
        spanIs(unreachable, 3, 2, 5);
        RoomMaker itself = with(row(SET, 0, 1), row(ADD, 0, 0, 0));
        itself.build(1);
        spanIs(itself, 0, 1, 3);
        RoomMaker twoLoops = with(row(SET, 0, 1), row(LESS, 1, 2, 4), row(WRITE, 3), row(GO, 1),
            row(WRITE, 0), row(SAME, 2, 4, 1));
        twoLoops.build(1);
        spanIs(twoLoops, 0, 1, 11);
        spanIs(twoLoops, 1, 0, 11);
        spanIs(twoLoops, 2, 0, 11);
        spanIs(twoLoops, 3, 0, 11);
        spanIs(twoLoops, 4, 0, 11);
    }

    private static void livesOnlyAt(RoomMaker maker, int v, int... points) {
        int at = 0;
        for (int point = 0; point < 2 * maker.count(0); point++) {
            boolean due = at < points.length && points[at] == point;
            int here = point;
            CHECK.due("7: v" + v + " lives at " + point, bit(due), () -> bit(maker.lives(v, here)));
            at += due ? 1 : 0;
        }
    }

    private static void livesTells() {
        RoomMaker maker = with(row(SET, 0, 5), row(WRITE, 0), row(SET, 0, 6), row(COPY, 1, 0), row(LOAD, 2, 1),
            row(STORE, 3, 4), row(SUB, 5, 6, 7));
        CHECK.due("7: nothing is built", 0, () -> bit(maker.lives(0, 99)));
        CHECK.outOfBounds("7: no value though nothing is built", () -> bit(maker.lives(16, 0)));
        maker.build(3);
        livesOnlyAt(maker, 0, 1, 2, 5, 6);
        livesOnlyAt(maker, 1, 7, 8);
        livesOnlyAt(maker, 2);
        livesOnlyAt(maker, 3, 0, 1, 2, 3, 4, 5, 6, 7, 8, 9, 10);
        livesOnlyAt(maker, 4, 0, 1, 2, 3, 4, 5, 6, 7, 8, 9, 10);
        livesOnlyAt(maker, 5);
        livesOnlyAt(maker, 6, 0, 1, 2, 3, 4, 5, 6, 7, 8, 9, 10, 11, 12);
        livesOnlyAt(maker, 7, 0, 1, 2, 3, 4, 5, 6, 7, 8, 9, 10, 11, 12);
        CHECK.outOfBounds("7: no point -1", () -> bit(maker.lives(0, -1)));
        CHECK.outOfBounds("7: no point behind the last", () -> bit(maker.lives(0, 14)));
        CHECK.outOfBounds("7: no value -1", () -> bit(maker.lives(-1, 0)));
        CHECK.outOfBounds("7: no value 16", () -> bit(maker.lives(16, 0)));
        RoomMaker empty = new RoomMaker();
        empty.build(1);
        CHECK.outOfBounds("7: no point without a program", () -> bit(empty.lives(0, 0)));
    }

    private static void livesRoundALoop() {
        RoomMaker maker = with(row(SET, 0, 0), row(GO, 4), row(WRITE, 1), row(GO, 6), row(SET, 1, 2),
            row(LESS, 0, 1, 2), row(SAME, 0, 2, 4));
        maker.build(2);
        livesOnlyAt(maker, 0, 1, 2, 3, 4, 5, 6, 7, 8, 9, 10, 11, 12, 13);
        livesOnlyAt(maker, 1, 4, 9, 10, 11);
        livesOnlyAt(maker, 2, 0, 1, 2, 3, 4, 5, 6, 7, 8, 9, 10, 11, 12, 13);
        RoomMaker backwards = new RoomMaker();
        backwards.put(GO, 63, 0, 0);
        backwards.put(WRITE, 9, 0, 0);
        backwards.put(GO, 64, 0, 0);
        for (int i = 3; i < 64; i++) {
            backwards.put(GO, i == 3 ? 1 : i - 1, 0, 0);
        }
        backwards.build(1);
        CHECK.due("7: a long way against the order", 1, () -> bit(backwards.lives(9, 0)));
        CHECK.due("7: and behind the last", 1, () -> bit(backwards.lives(9, 127)));
        CHECK.due("7: not on the way to the end", 0, () -> bit(backwards.lives(9, 4)));
    }

    private static void livesAnew() {
        RoomMaker maker = with(row(READ, 1), row(SET, 2, 3), row(SAME, 0, 1, 0), row(LESS, 2, 2, 0));
        maker.build(1);
        livesOnlyAt(maker, 0, 0, 1, 2, 3, 4, 5, 6, 7);
        livesOnlyAt(maker, 1, 1, 2, 3, 4);
        livesOnlyAt(maker, 2, 3, 4, 5, 6);
        maker.clear();
        maker.put(GO, 0, 0, 0);
        maker.build(1);
        livesOnlyAt(maker, 0);
        RoomMaker backToTheFirst = with(row(WRITE, 0), row(SET, 0, 1), row(GO, 0));
        backToTheFirst.build(1);
        livesOnlyAt(backToTheFirst, 0, 0, 3, 4, 5);
    }

    private static void placesAre(RoomMaker maker, int... places) {
        for (int v = 0; v < places.length; v++) {
            int value = v;
            CHECK.due("8: the place of v" + v, places[v], () -> maker.place(value));
        }
    }

    private static void placeTells() {
        RoomMaker maker = threeAtOnce();
        placesAre(maker, -1, -1, -1, -1);
        maker.build(3);
        placesAre(maker, 0, 1, 2, -1);
        maker.build(2);
        placesAre(maker, 0, 1, 16, -1);
        maker.build(1);
        placesAre(maker, 0, 16, 17, -1);
        CHECK.outOfBounds("8: no value 16", () -> maker.place(16));
        CHECK.outOfBounds("8: no value -1", () -> maker.place(-1));
        CHECK.outOfBounds("8: no value 16 of a new object", () -> new RoomMaker().place(16));
        RoomMaker driven = with(row(SET, 0, 1), row(SET, 1, 2), row(WRITE, 1), row(SET, 2, 3), row(WRITE, 2),
            row(WRITE, 0));
        driven.build(1);
        placesAre(driven, 16, 0, 0);
        driven.build(2);
        placesAre(driven, 0, 1, 1);
    }

    private static void placeBreaksTies() {
        RoomMaker sameEnd = with(row(SET, 3, 1), row(SET, 1, 2), row(SET, 2, 3), row(LESS, 3, 1, 0),
            row(SAME, 2, 2, 0));
        sameEnd.build(1);
        spanIs(sameEnd, 3, 1, 6);
        CHECK.due("8: the one that ends last has no register", 17, () -> sameEnd.place(2));
        CHECK.due("8: of two that end at once the greater number goes", 16, () -> sameEnd.place(3));
        CHECK.due("8: and the other one gets its register", 0, () -> sameEnd.place(1));
        RoomMaker sameStart = with(row(MUL, 6, 4, 5), row(WRITE, 6));
        sameStart.build(2);
        CHECK.due("8: of those that begin at once the least number is first", 0, () -> sameStart.place(4));
        CHECK.due("8: then the next", 1, () -> sameStart.place(5));
        CHECK.due("8: a register of a value that has ended", 0, () -> sameStart.place(6));
        sameStart.build(1);
        CHECK.due("8: one register: the least number has it", 0, () -> sameStart.place(4));
        CHECK.due("8: the greater one is on the stack", 16, () -> sameStart.place(5));
    }

    private static void placeFreesOnlyBehindTheEnd() {
        RoomMaker apart = with(row(SET, 0, 1), row(SET, 1, 1), row(WRITE, 1));
        apart.build(2);
        spanIs(apart, 0, 1, 1);
        placesAre(apart, 0, 0);
        RoomMaker touching = with(row(SET, 0, 1), row(GO, 3), row(ADD, 2, 0, 1));
        touching.build(2);
        spanIs(touching, 0, 1, 4);
        spanIs(touching, 1, 4, 4);
        spanIs(touching, 2, 5, 5);
        placesAre(touching, 0, 1, 0);
        RoomMaker drivenOut = with(row(GO, 2), row(ADD, 2, 0, 1), row(WRITE, 2));
        drivenOut.build(2);
        spanIs(drivenOut, 0, 2, 2);
        spanIs(drivenOut, 1, 2, 2);
        spanIs(drivenOut, 2, 0, 4);
        placesAre(drivenOut, 1, 0, 16);
    }

    private static void pressureTells() {
        CHECK.due("9: nothing is built", NONE, () -> new RoomMaker().pressure());
        RoomMaker empty = new RoomMaker();
        empty.build(1);
        CHECK.due("9: no program", 0, empty::pressure);
        RoomMaker maker = threeAtOnce();
        maker.build(1);
        CHECK.due("9: three at once", 3, maker::pressure);
        RoomMaker dead = with(row(SET, 0, 1), row(SET, 1, 1), row(SET, 2, 1));
        dead.build(1);
        CHECK.due("9: three that are never read", 1, dead::pressure);
        RoomMaker hole = with(row(SET, 0, 1), row(WRITE, 0), row(SET, 1, 1), row(SET, 0, 2), row(WRITE, 0));
        hole.build(1);
        CHECK.due("9: a span without life counts", 2, hole::pressure);
        RoomMaker all = new RoomMaker();
        for (int v = 0; v < 16; v++) {
            all.put(WRITE, v, 0, 0);
        }
        CHECK.due("9: sixteen in one register", 15, () -> all.build(1));
        CHECK.due("9: sixteen at once", 16, all::pressure);
    }

    private static void runDoes() {
        RoomMaker maker = with(row(SET, 0, 0), row(SET, 1, 3), row(SET, 2, 1), row(WRITE, 0), row(ADD, 0, 0, 2),
            row(LESS, 0, 1, 3), row(SAME, 0, 1, 8), row(WRITE, 2), row(WRITE, 1));
        maker.build(2);
        CHECK.due("10: four instructions", 4, () -> maker.run(4));
        CHECK.due("10: the fifth comes next", 4, () -> maker.count(1));
        CHECK.due("10: up to the end", 10, () -> maker.run(5000));
        CHECK.due("10: the last output", 3, () -> maker.output(0));
        CHECK.due("10: the one before", 2, () -> maker.output(1));
        CHECK.due("10: four outputs", 4, () -> maker.count(6));
        CHECK.due("10: it is at the end", 1, () -> maker.count(7));
        RoomMaker endless = with(row(GO, 0));
        endless.build(1);
        CHECK.due("10: without an end", 5000, () -> endless.run(5000));
        CHECK.due("10: one instruction", 1, () -> endless.run(1));
    }

    private static long outputOf(int registers, int[]... rows) {
        RoomMaker maker = with(rows);
        maker.build(registers);
        maker.run(5000);
        return maker.output(0);
    }

    private static void runReckons() {
        for (int r = 1; r <= 8; r++) {
            int registers = r;
            CHECK.due("10: ADD goes round", MIN, () -> outputOf(registers,
                row(SET, 1, MAX), row(SET, 2, 1), row(ADD, 0, 1, 2), row(WRITE, 0)));
            CHECK.due("10: SUB goes round", MAX, () -> outputOf(registers,
                row(SET, 1, MIN), row(SET, 2, 1), row(SUB, 0, 1, 2), row(WRITE, 0)));
            CHECK.due("10: MUL goes round", 46341 * 46341, () -> outputOf(registers,
                row(SET, 1, 46341), row(MUL, 0, 1, 1), row(WRITE, 0)));
            CHECK.due("10: COPY", 8, () -> outputOf(registers,
                row(SET, 1, 8), row(COPY, 0, 1), row(SET, 1, 9), row(WRITE, 1), row(WRITE, 0)));
            CHECK.due("10: the cell of -1 is that of 15", 77, () -> outputOf(registers,
                row(SET, 1, -1), row(SET, 2, 77), row(SET, 3, 15), row(STORE, 1, 2), row(LOAD, 0, 3), row(WRITE, 0)));
            CHECK.due("10: the cell of 21 is that of 5", 78, () -> outputOf(registers,
                row(SET, 1, 5), row(SET, 2, 78), row(SET, 3, 21), row(STORE, 1, 2), row(LOAD, 0, 3), row(WRITE, 0)));
            CHECK.due("10: LESS knows signs", 1, () -> outputOf(registers,
                row(SET, 1, MIN), row(SET, 2, MAX), row(SET, 3, 1), row(LESS, 1, 2, 5), row(SET, 3, 2), row(WRITE, 3)));
            CHECK.due("10: LESS of the same goes on", 2, () -> outputOf(registers,
                row(SET, 1, 4), row(SET, 2, 4), row(SET, 3, 1), row(LESS, 1, 2, 5), row(SET, 3, 2), row(WRITE, 3)));
            CHECK.due("10: SAME", 1, () -> outputOf(registers,
                row(SET, 1, 4), row(SET, 2, 4), row(SET, 3, 1), row(SAME, 1, 2, 5), row(SET, 3, 2), row(WRITE, 3)));
            CHECK.due("10: a value is 0 at first", 0, () -> outputOf(registers,
                row(SET, 1, 4), row(WRITE, 1), row(SET, 2, 5), row(WRITE, 2), row(WRITE, 0)));
        }
    }

    private static void runRefuses() {
        CHECK.illegalState("10: nothing is built", () -> new RoomMaker().run(1));
        CHECK.illegalState("10: nothing is built, and n is wrong", () -> new RoomMaker().run(0));
        RoomMaker empty = new RoomMaker();
        empty.build(1);
        CHECK.illegalState("10: no program is at its end", () -> empty.run(1));
        RoomMaker maker = with(row(SET, 0, 1), row(GO, 2));
        maker.build(1);
        for (int n : row(0, -1, 5001, MIN, MAX)) {
            CHECK.illegalArgument("10: run(" + n + ")", () -> maker.run(n));
        }
        CHECK.due("10: nothing was done then", 0, () -> maker.count(2));
        CHECK.due("10: up to the end", 2, () -> maker.run(3));
        CHECK.illegalState("10: at the end", () -> maker.run(1));
        CHECK.illegalState("10: at the end, and n is wrong", () -> maker.run(0));
    }

    private static void restartGoesBack() {
        CHECK.due("11: nothing is built", 0, () -> bit(new RoomMaker().restart()));
        RoomMaker maker = with(row(READ, 0), row(READ, 1), row(STORE, 0, 1), row(COPY, 2, 1), row(WRITE, 2),
            row(WRITE, 0));
        maker.give(3);
        maker.give(4);
        maker.give(5);
        maker.build(1);
        maker.run(100);
        CHECK.due("11: restart", 1, () -> bit(maker.restart()));
        for (int v = 0; v < 32; v++) {
            int value = v;
            CHECK.due("11: value(" + v + ") behind it", 0, () -> maker.value(value));
        }
        for (int what = 1; what <= 7; what++) {
            int which = what;
            CHECK.due("11: count(" + what + ") behind it", 0, () -> maker.count(which));
        }
        CHECK.due("11: no output", 0, () -> maker.output(0));
        CHECK.due("11: inputs stay", 1, () -> maker.count(8));
        CHECK.due("11: places stay", 16, () -> maker.place(0));
        CHECK.due("11: it runs again", 6, () -> maker.run(100));
        CHECK.due("11: with the inputs that were left", 5, () -> maker.output(0));
        CHECK.due("11: and without", 0, () -> maker.output(1));
    }

    private static void valueTells() {
        CHECK.illegalState("12: nothing is built", () -> new RoomMaker().value(0));
        CHECK.illegalState("12: nothing is built, nor is there such a value", () -> new RoomMaker().value(99));
        RoomMaker maker = with(row(SET, 0, 15), row(SET, 1, 7), row(STORE, 0, 1), row(SET, 2, 9), row(WRITE, 2),
            row(WRITE, 0));
        maker.build(1);
        maker.run(3);
        CHECK.due("12: v0 on the stack", 15, () -> maker.value(0));
        CHECK.due("12: v1 in the register", 7, () -> maker.value(1));
        CHECK.due("12: v2 has the same register", 7, () -> maker.value(2));
        CHECK.due("12: v3 has no place", 0, () -> maker.value(3));
        CHECK.due("12: cell 15", 7, () -> maker.value(31));
        CHECK.due("12: cell 0", 0, () -> maker.value(16));
        maker.run(1);
        CHECK.due("12: v1 is overwritten in its place", 9, () -> maker.value(1));
        CHECK.due("12: telling loads nothing", 1, () -> maker.count(3));
        CHECK.outOfBounds("12: value(32)", () -> maker.value(32));
        CHECK.outOfBounds("12: value(-1)", () -> maker.value(-1));
        CHECK.outOfBounds("12: the least int", () -> maker.value(MIN));
        CHECK.outOfBounds("12: the greatest int", () -> maker.value(MAX));
    }

    private static void outputKeepsSixteen() {
        RoomMaker maker = with(row(SET, 1, 1), row(ADD, 0, 0, 1), row(WRITE, 0), row(GO, 1));
        maker.build(1);
        CHECK.due("13: none yet", 0, () -> maker.output(0));
        maker.run(3);
        CHECK.due("13: the first", 1, () -> maker.output(0));
        CHECK.due("13: none ahead of it", 0, () -> maker.output(1));
        maker.run(3 * 19);
        CHECK.due("13: twenty", 20, () -> maker.count(6));
        for (int k = 0; k < 16; k++) {
            int which = k;
            CHECK.due("13: output(" + k + ")", 20 - k, () -> maker.output(which));
        }
        for (int k : row(16, 17, -1, MIN, MAX)) {
            CHECK.due("13: output(" + k + ")", 0, () -> maker.output(k));
        }
        maker.put(WRITE, 0, 0, 0);
        CHECK.due("13: gone with what was built", 0, () -> maker.output(0));
    }

    private static void countIs(RoomMaker maker, int... due) {
        for (int what = 0; what < due.length; what++) {
            int which = what;
            CHECK.due("14: count(" + what + ")", due[what], () -> maker.count(which));
        }
    }

    private static void countTells() {
        RoomMaker maker = with(row(READ, 0), row(WRITE, 0), row(GO, 4), row(WRITE, 0));
        maker.give(1);
        maker.give(2);
        countIs(maker, 4, -1, -1, -1, -1, -1, -1, -1, 2, -1);
        maker.build(1);
        countIs(maker, 4, 0, 0, 0, 0, 0, 0, 0, 2, -1);
        maker.run(2);
        countIs(maker, 4, 2, 2, 0, 0, 0, 1, 0, 1, -1);
        maker.run(2);
        countIs(maker, 4, 4, 3, 0, 0, 0, 1, 1, 1, -1);
        for (int what : row(-1, 9, MIN, MAX)) {
            CHECK.due("14: count(" + what + ")", NONE, () -> maker.count(what));
        }
    }

    /** v0 has the one register to the end, so that all others are on the stack. */
    private static RoomMaker onStack(int[]... rows) {
        RoomMaker maker = with(rows);
        for (int v = 0; v < 4; v++) {
            maker.put(WRITE, v, 0, 0);
        }
        maker.build(1);
        maker.run(rows.length);
        return maker;
    }

    private static void costs(String what, int loads, int stores, int[]... rows) {
        RoomMaker maker = onStack(rows);
        CHECK.due("14: v0 has the register", 0, () -> maker.place(0));
        CHECK.due("14: loads of " + what, loads, () -> maker.count(3));
        CHECK.due("14: stores of " + what, stores, () -> maker.count(4));
        CHECK.due("14: nothing is left out of " + what, 0, () -> maker.count(5));
    }

    private static void countStackWork() {
        costs("SET in a register", 0, 0, row(SET, 0, 5));
        costs("SET", 0, 1, row(SET, 1, 5));
        costs("ADD", 2, 1, row(ADD, 1, 2, 3));
        costs("SUB of the same twice", 2, 1, row(SUB, 1, 2, 2));
        costs("MUL with a register", 1, 1, row(MUL, 1, 0, 3));
        costs("ADD into a register", 2, 0, row(ADD, 0, 2, 3));
        costs("COPY", 1, 1, row(COPY, 1, 2));
        costs("COPY onto itself on the stack", 1, 1, row(COPY, 1, 1));
        costs("COPY into a register", 1, 0, row(COPY, 0, 1));
        costs("COPY out of a register", 0, 1, row(COPY, 1, 0));
        costs("READ", 0, 1, row(READ, 1));
        costs("LOAD", 1, 1, row(LOAD, 1, 2));
        costs("STORE", 2, 0, row(STORE, 1, 2));
        costs("STORE of the same twice", 2, 0, row(STORE, 1, 1));
        costs("WRITE", 1, 0, row(WRITE, 1));
        costs("WRITE of a register", 0, 0, row(WRITE, 0));
        costs("GO", 0, 0, row(GO, 1));
        costs("LESS", 2, 0, row(LESS, 1, 2, 1));
        costs("SAME", 2, 0, row(SAME, 1, 1, 1));
        costs("two of them", 3, 1, row(WRITE, 1), row(ADD, 1, 2, 3));
    }

    private static void countCopiesLeftOut() {
        RoomMaker maker = with(row(SET, 0, 5), row(COPY, 1, 0), row(COPY, 1, 1), row(WRITE, 1), row(GO, 0));
        maker.build(2);
        CHECK.due("14: v0 and v1 share a register", 0, () -> maker.place(0) + maker.place(1));
        CHECK.due("14: a copy that is left out is done all the same", 10, () -> maker.run(10));
        CHECK.due("14: copies left out, each time they come by", 4, () -> maker.count(5));
        CHECK.due("14: they go on to the next", 0, () -> maker.count(1));
        CHECK.due("14: ten are done", 10, () -> maker.count(2));
        CHECK.due("14: the copy holds", 5, () -> maker.output(0));
        RoomMaker apart = with(row(SET, 0, 5), row(COPY, 1, 0), row(WRITE, 1), row(WRITE, 0));
        apart.build(2);
        apart.run(4);
        CHECK.due("14: a copy between two registers is no such", 0, () -> apart.count(5));
    }

    private static void nothingIsBuilt() {
        RoomMaker maker = threeAtOnce();
        maker.build(2);
        maker.run(6);
        maker.put(WRITE, 0, 0, 0);
        CHECK.due("6: span when it is gone", NONE, () -> maker.span(0, true));
        CHECK.due("7: lives when it is gone", 0, () -> bit(maker.lives(0, 1)));
        CHECK.due("8: place when it is gone", NONE, () -> maker.place(0));
        CHECK.due("9: pressure when it is gone", NONE, maker::pressure);
        CHECK.illegalState("10: run when it is gone", () -> maker.run(1));
        CHECK.due("11: restart when it is gone", 0, () -> bit(maker.restart()));
        CHECK.illegalState("12: value when it is gone", () -> maker.value(0));
    }
}
