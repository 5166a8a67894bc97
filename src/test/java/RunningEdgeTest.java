/** The boundary cases of promises 10 to 14: each sentence that names one has a test of its own. */
public final class RunningEdgeTest extends Programs {
    private static final Check CHECK = new Check();

    public static void main(String[] args) {
        run();
        restart();
        value();
        output();
        count();
        CHECK.end();
    }

    private static void run() {
        CHECK.sentence("10: Up to n (1 .. 5000)", RunningEdgeTest::runAtItsEdges);
        CHECK.sentence("10: Up to n instructions are done: how many", RunningEdgeTest::runUpToTheEnd);
        CHECK.sentence("10: IllegalStateException when nothing is built", RunningEdgeTest::runWhenNothingIsBuilt);
        CHECK.sentence("10: or it is at the end", RunningEdgeTest::runAtTheEnd);
        CHECK.sentence("10: or it is at the end: an empty program", RunningEdgeTest::runOfAnEmptyProgram);
        CHECK.sentence("10: else IllegalArgumentException when n is not so", RunningEdgeTest::runOfNoNumber);
        CHECK.sentence("10: else", RunningEdgeTest::theStateIsLookedAtFirst);
        CHECK.sentence("10: when n is not so nothing changes", RunningEdgeTest::wrongRunChangesNothing);
    }

    private static void restart() {
        CHECK.sentence("11: Back to the beginning", RunningEdgeTest::restartFromAnywhere);
        CHECK.sentence("11: registers as at first", RunningEdgeTest::restartOfRegisters);
        CHECK.sentence("11: stack as at first", RunningEdgeTest::restartOfTheStack);
        CHECK.sentence("11: cells as at first", RunningEdgeTest::restartOfCells);
        CHECK.sentence("11: outputs as at first", RunningEdgeTest::restartOfOutputs);
        CHECK.sentence("11: inputs stay as they are", RunningEdgeTest::restartLeavesInputs);
        CHECK.sentence("11: as at first: what was built stays", RunningEdgeTest::restartLeavesPlaces);
        CHECK.sentence("11: false when nothing is built", RunningEdgeTest::restartWhenNothingIsBuilt);
    }

    private static void value() {
        CHECK.sentence("12: Of a value what its place has now", RunningEdgeTest::valueOfSharedPlaces);
        CHECK.sentence("12: (0 without one)", RunningEdgeTest::valueWithoutPlace);
        CHECK.sentence("12: of a cell (16 + i) what it has", RunningEdgeTest::firstAndLastCell);
        CHECK.sentence("12: what it has now, and it is no load", RunningEdgeTest::valueCostsNothing);
        CHECK.sentence("12: IllegalStateException when nothing is built", RunningEdgeTest::valueWhenNothingIsBuilt);
        CHECK.sentence("12: else IndexOutOfBoundsException when there is none such", RunningEdgeTest::valueOfNone);
        CHECK.sentence("12: else", RunningEdgeTest::theStateIsLookedAtFirstForValues);
    }

    private static void output() {
        CHECK.sentence("13: the latest 16 outputs: fewer", RunningEdgeTest::fewerThanSixteen);
        CHECK.sentence("13: the latest 16 outputs: just 16", RunningEdgeTest::justSixteen);
        CHECK.sentence("13: the latest 16 outputs: one more", RunningEdgeTest::seventeen);
        CHECK.sentence("13: the latest 16 outputs: round and round", RunningEdgeTest::outputsGoRound);
        CHECK.sentence("13: 0 when there is none: no output yet", RunningEdgeTest::noOutputYet);
        CHECK.sentence("13: 0 when there is none: no such k", RunningEdgeTest::noSuchOutput);
        CHECK.sentence("13: 0 when there is none: nothing is built", RunningEdgeTest::outputWhenNothingIsBuilt);
    }

    private static void count() {
        CHECK.sentence("14: 0 instructions", RunningEdgeTest::countOfInstructions);
        CHECK.sentence("14: 1 the one that comes next", RunningEdgeTest::countOfTheNext);
        CHECK.sentence("14: 2 instructions done", RunningEdgeTest::countOfThoseDone);
        CHECK.sentence("14: 3 loads, 4 stores, 5 copies each time they come by", RunningEdgeTest::countEachTime);
        CHECK.sentence("14: 6 outputs", RunningEdgeTest::countOfOutputs);
        CHECK.sentence("14: 7 whether it is at the end", RunningEdgeTest::countOfTheEnd);
        CHECK.sentence("14: 8 inputs that wait", RunningEdgeTest::countOfInputs);
        CHECK.sentence("14: NONE for others", RunningEdgeTest::countOfOthers);
        CHECK.sentence("14: and for 1 .. 7 when nothing is built", RunningEdgeTest::countWhenNothingIsBuilt);
    }

    private static void runAtItsEdges() {
        RoomMaker maker = builtWith(1, row(WRITE, 0), row(GO, 0));
        CHECK.due("run(1)", 1, () -> maker.run(1));
        CHECK.due("the second comes next", 1, () -> maker.count(1));
        CHECK.due("run(2)", 2, () -> maker.run(2));
        CHECK.due("run(4999)", 4999, () -> maker.run(4999));
        CHECK.due("run(5000)", 5000, () -> maker.run(5000));
        CHECK.due("all of them", 10002, () -> maker.count(2));
    }

    private static void runUpToTheEnd() {
        CHECK.due("one fewer than there are", 5, () -> built(threeAtOnce()).run(5));
        CHECK.due("as many as there are", 6, () -> built(threeAtOnce()).run(6));
        CHECK.due("one more than there are", 6, () -> built(threeAtOnce()).run(7));
        CHECK.due("many more than there are", 6, () -> built(threeAtOnce()).run(5000));
        RoomMaker parts = built(threeAtOnce());
        CHECK.due("a part", 4, () -> parts.run(4));
        CHECK.due("it is not at the end", 0, () -> parts.count(7));
        CHECK.due("the rest", 2, () -> parts.run(4));
        CHECK.due("it is at the end", 1, () -> parts.count(7));
    }

    private static RoomMaker built(RoomMaker maker) {
        maker.build(2);
        return maker;
    }

    private static RoomMaker[] unbuilt() {
        RoomMaker put = halfway();
        put.put(WRITE, 0, 0, 0);
        RoomMaker cleared = halfway();
        cleared.clear();
        return new RoomMaker[] {new RoomMaker(), threeAtOnce(), put, cleared};
    }

    private static void runWhenNothingIsBuilt() {
        for (RoomMaker maker : unbuilt()) {
            CHECK.illegalState("run(1)", () -> maker.run(1));
            CHECK.illegalState("run(5000)", () -> maker.run(5000));
        }
    }

    private static void runAtTheEnd() {
        RoomMaker maker = built(threeAtOnce());
        maker.run(6);
        String before = stateOf(maker);
        CHECK.illegalState("run(1)", () -> maker.run(1));
        CHECK.illegalState("run(5000)", () -> maker.run(5000));
        CHECK.same("what was built, and its run", before, stateOf(maker));
        RoomMaker gone = builtWith(1, row(GO, 2), row(WRITE, 0));
        gone.run(1);
        CHECK.illegalState("run(1) where it went to the end", () -> gone.run(1));
    }

    private static void runOfAnEmptyProgram() {
        RoomMaker maker = builtWith(1);
        CHECK.illegalState("run(1)", () -> maker.run(1));
        maker.restart();
        CHECK.illegalState("run(1) behind restart()", () -> maker.run(1));
    }

    private static void runOfNoNumber() {
        RoomMaker maker = builtWith(1, row(GO, 0));
        for (int n : row(0, -1, 5001, 5002, MIN, MAX)) {
            CHECK.illegalArgument("run(" + n + ")", () -> maker.run(n));
        }
    }

    private static void theStateIsLookedAtFirst() {
        for (int n : row(0, -1, 5001, MIN, MAX)) {
            CHECK.illegalState("run(" + n + ") when nothing is built", () -> new RoomMaker().run(n));
            CHECK.illegalState("run(" + n + ") of an empty program", () -> builtWith(1).run(n));
            RoomMaker ended = builtWith(1, row(SET, 0, 1));
            ended.run(1);
            CHECK.illegalState("run(" + n + ") at the end", () -> ended.run(n));
        }
    }

    private static void wrongRunChangesNothing() {
        RoomMaker maker = halfway();
        String before = stateOf(maker);
        for (int n : row(0, -1, 5001, MIN, MAX)) {
            CHECK.illegalArgument("run(" + n + ")", () -> maker.run(n));
        }
        CHECK.same("what was built, and its run", before, stateOf(maker));
        CHECK.due("it goes on", 1, () -> maker.run(1));
    }

    private static void restartFromAnywhere() {
        for (int steps : row(0, 1, 3, 5, 6)) {
            RoomMaker maker = built(threeAtOnce());
            String atFirst = stateOf(maker);
            if (steps > 0) {
                maker.run(steps);
            }
            CHECK.due("restart() behind " + steps, 1, () -> bit(maker.restart()));
            CHECK.same("all behind it", atFirst, stateOf(maker));
            CHECK.due("it runs anew", 6, () -> maker.run(5000));
        }
        CHECK.due("restart() of an empty program", 1, () -> bit(builtWith(1).restart()));
    }

    private static void restartOfRegisters() {
        RoomMaker maker = builtWith(8, row(SET, 0, 5), row(SET, 1, 6), row(LESS, 0, 1, 3));
        maker.run(3);
        maker.restart();
        CHECK.due("register 0", 0, () -> maker.value(0));
        CHECK.due("register 1", 0, () -> maker.value(1));
        RoomMaker adding = builtWith(1, row(ADD, 0, 0, 0), row(SET, 1, 4), row(ADD, 0, 0, 1), row(WRITE, 0));
        adding.run(4);
        adding.restart();
        adding.run(4);
        CHECK.due("the same again", 4, () -> adding.output(0));
    }

    private static void restartOfTheStack() {
        RoomMaker maker = builtWith(1, row(WRITE, 1), row(SET, 1, 5), row(SET, 0, 6), row(WRITE, 0), row(WRITE, 1));
        CHECK.due("v1 has a stack place", 16, () -> maker.place(1));
        maker.run(5);
        maker.restart();
        CHECK.due("the stack place", 0, () -> maker.value(1));
        maker.run(1);
        CHECK.due("what is read from it first", 0, () -> maker.output(0));
    }

    private static void restartOfCells() {
        RoomMaker maker = builtWith(2, row(LOAD, 1, 0), row(WRITE, 1), row(SET, 0, 15), row(STORE, 0, 0),
            row(SET, 1, 0), row(STORE, 1, 0));
        maker.run(6);
        CHECK.due("cell 0 is used", 15, () -> maker.value(16));
        CHECK.due("cell 15 is used", 15, () -> maker.value(31));
        maker.restart();
        CHECK.due("cell 0", 0, () -> maker.value(16));
        CHECK.due("cell 15", 0, () -> maker.value(31));
        maker.run(2);
        CHECK.due("what is loaded first", 0, () -> maker.output(0));
    }

    private static void restartOfOutputs() {
        RoomMaker maker = counter(20);
        maker.restart();
        for (int k = 0; k < 16; k++) {
            int which = k;
            CHECK.due("output(" + k + ")", 0, () -> maker.output(which));
        }
        CHECK.due("how many", 0, () -> maker.count(6));
        maker.run(3);
        CHECK.due("the first anew", 1, () -> maker.output(0));
        CHECK.due("none ahead of it", 0, () -> maker.output(1));
    }

    private static void restartLeavesInputs() {
        RoomMaker maker = with(row(READ, 0), row(WRITE, 0));
        maker.give(3);
        maker.give(4);
        maker.build(1);
        maker.run(2);
        maker.restart();
        CHECK.due("one waits", 1, () -> maker.count(8));
        maker.run(2);
        CHECK.due("the one that was read is not read again", 4, () -> maker.output(0));
        maker.restart();
        CHECK.due("none waits", 0, () -> maker.count(8));
        maker.run(2);
        CHECK.due("there is none", 0, () -> maker.output(0));
        for (int i = 0; i < 32; i++) {
            maker.give(i);
        }
        maker.restart();
        CHECK.due("32 wait", 32, () -> maker.count(8));
    }

    private static void restartLeavesPlaces() {
        RoomMaker maker = threeAtOnce();
        maker.build(1);
        maker.run(6);
        maker.restart();
        CHECK.due("place(0)", 0, () -> maker.place(0));
        CHECK.due("place(1)", 16, () -> maker.place(1));
        CHECK.due("place(2)", 17, () -> maker.place(2));
        CHECK.due("span(2, true)", 10, () -> maker.span(2, true));
        CHECK.due("lives(2, 10)", 1, () -> bit(maker.lives(2, 10)));
        CHECK.due("pressure()", 3, maker::pressure);
        CHECK.due("instructions", 6, () -> maker.count(0));
    }

    private static void restartWhenNothingIsBuilt() {
        for (RoomMaker maker : unbuilt()) {
            String before = stateOf(maker);
            CHECK.due("restart()", 0, () -> bit(maker.restart()));
            CHECK.same("all behind it", before, stateOf(maker));
        }
    }

    private static void valueOfSharedPlaces() {
        RoomMaker maker = builtWith(1, row(SET, 0, 5), row(WRITE, 0), row(SET, 1, 6), row(WRITE, 1));
        CHECK.due("v1 ahead of all", 0, () -> maker.value(1));
        maker.run(1);
        CHECK.due("v0", 5, () -> maker.value(0));
        CHECK.due("v1 has the same place", 5, () -> maker.value(1));
        maker.run(2);
        CHECK.due("v1", 6, () -> maker.value(1));
        CHECK.due("v0 has the same place", 6, () -> maker.value(0));
    }

    private static void valueWithoutPlace() {
        RoomMaker maker = builtWith(1, row(SET, 3, 7), row(WRITE, 3));
        maker.run(2);
        CHECK.due("v3", 7, () -> maker.value(3));
        for (int v : row(0, 1, 2, 4, 15)) {
            CHECK.due("v" + v, 0, () -> maker.value(v));
        }
        CHECK.due("v0 of an empty program", 0, () -> builtWith(1).value(0));
        CHECK.due("v15 of an empty program", 0, () -> builtWith(1).value(15));
    }

    private static void firstAndLastCell() {
        RoomMaker maker = builtWith(2, row(SET, 0, 0), row(SET, 1, 50), row(STORE, 0, 1), row(SET, 0, 15),
            row(SET, 1, 51), row(STORE, 0, 1));
        maker.run(6);
        CHECK.due("value(15)", 0, () -> maker.value(15));
        CHECK.due("value(16)", 50, () -> maker.value(16));
        CHECK.due("value(17)", 0, () -> maker.value(17));
        CHECK.due("value(30)", 0, () -> maker.value(30));
        CHECK.due("value(31)", 51, () -> maker.value(31));
        CHECK.due("a cell of an empty program", 0, () -> builtWith(1).value(31));
    }

    private static void valueCostsNothing() {
        RoomMaker maker = halfway();
        String before = stateOf(maker);
        CHECK.same("asked again", before, stateOf(maker));
    }

    private static void valueWhenNothingIsBuilt() {
        for (RoomMaker maker : unbuilt()) {
            for (int v : row(0, 15, 16, 31)) {
                CHECK.illegalState("value(" + v + ")", () -> maker.value(v));
            }
        }
    }

    private static void valueOfNone() {
        RoomMaker maker = halfway();
        for (int v : row(-1, 32, 33, MIN, MAX)) {
            CHECK.outOfBounds("value(" + v + ")", () -> maker.value(v));
            CHECK.outOfBounds("value(" + v + ") of an empty program", () -> builtWith(1).value(v));
        }
    }

    private static void theStateIsLookedAtFirstForValues() {
        for (RoomMaker maker : unbuilt()) {
            for (int v : row(-1, 32, MIN, MAX)) {
                CHECK.illegalState("value(" + v + ")", () -> maker.value(v));
            }
        }
    }

    /** Has written 1, 2, .. up to a number. */
    private static RoomMaker counter(int outputs) {
        RoomMaker maker = builtWith(2, row(SET, 1, 1), row(ADD, 0, 0, 1), row(WRITE, 0), row(GO, 1));
        if (outputs > 0) {
            maker.run(3 * outputs);
        }
        return maker;
    }

    private static void outputsAre(RoomMaker maker, int latest) {
        for (int k = 0; k < 16; k++) {
            int which = k;
            CHECK.due("output(" + k + ") of " + latest, Math.max(0, latest - k), () -> maker.output(which));
        }
    }

    private static void fewerThanSixteen() {
        outputsAre(counter(1), 1);
        outputsAre(counter(2), 2);
        outputsAre(counter(15), 15);
    }

    private static void justSixteen() {
        RoomMaker maker = counter(16);
        outputsAre(maker, 16);
        CHECK.due("output(16)", 0, () -> maker.output(16));
    }

    private static void seventeen() {
        RoomMaker maker = counter(17);
        outputsAre(maker, 17);
        CHECK.due("the first is gone", 0, () -> maker.output(16));
    }

    private static void outputsGoRound() {
        for (int outputs : row(31, 32, 33, 1000, 1600)) {
            RoomMaker maker = counter(outputs);
            outputsAre(maker, outputs);
            CHECK.due("output(16)", 0, () -> maker.output(16));
        }
    }

    private static void noOutputYet() {
        RoomMaker maker = counter(0);
        for (int k : row(0, 1, 15, 16)) {
            CHECK.due("output(" + k + ")", 0, () -> maker.output(k));
        }
        RoomMaker silent = builtWith(1, row(SET, 0, 5));
        silent.run(1);
        CHECK.due("none was written", 0, () -> silent.output(0));
        CHECK.due("an empty program", 0, () -> builtWith(1).output(0));
    }

    private static void noSuchOutput() {
        for (int outputs : row(0, 5, 40)) {
            RoomMaker maker = counter(outputs);
            for (int k : row(-1, -16, 16, 17, 32, MIN, MAX)) {
                CHECK.due("output(" + k + ") of " + outputs, 0, () -> maker.output(k));
            }
        }
    }

    private static void outputWhenNothingIsBuilt() {
        for (RoomMaker maker : unbuilt()) {
            for (int k : row(0, 1, 15, 16, -1, MIN, MAX)) {
                CHECK.due("output(" + k + ")", 0, () -> maker.output(k));
            }
        }
    }

    private static void countOfInstructions() {
        CHECK.due("none", 0, () -> new RoomMaker().count(0));
        CHECK.due("one", 1, () -> with(row(WRITE, 0)).count(0));
        CHECK.due("all 64", 64, () -> fullWith(WRITE, 0).count(0));
        CHECK.due("when it is built", 6, () -> built(threeAtOnce()).count(0));
    }

    private static void countOfTheNext() {
        RoomMaker maker = builtWith(1, row(WRITE, 0), row(GO, 3), row(WRITE, 0), row(WRITE, 0));
        CHECK.due("at first", 0, () -> maker.count(1));
        maker.run(1);
        CHECK.due("behind one", 1, () -> maker.count(1));
        maker.run(1);
        CHECK.due("behind GO", 3, () -> maker.count(1));
        maker.run(1);
        CHECK.due("at the end", 4, () -> maker.count(1));
        CHECK.due("of an empty program", 0, () -> builtWith(1).count(1));
    }

    private static void countOfThoseDone() {
        RoomMaker maker = counter(0);
        CHECK.due("at first", 0, () -> maker.count(2));
        maker.run(1);
        CHECK.due("one", 1, () -> maker.count(2));
        maker.run(5000);
        maker.run(5000);
        CHECK.due("many", 10001, () -> maker.count(2));
        RoomMaker ended = built(threeAtOnce());
        ended.run(5000);
        CHECK.due("no more than there were", 6, () -> ended.count(2));
        ended.restart();
        CHECK.due("back at the beginning", 0, () -> ended.count(2));
    }

    private static void countEachTime() {
        RoomMaker maker = builtWith(1, row(SET, 0, 1), row(COPY, 1, 0), row(WRITE, 1), row(WRITE, 2), row(SET, 2, 4),
            row(GO, 0));
        CHECK.due("v2 has the stack place", 16, () -> maker.place(2));
        CHECK.due("v0 and v1 have the register", 0, () -> maker.place(0) + maker.place(1));
        for (int round = 1; round <= 20; round++) {
            int times = round;
            maker.run(6);
            CHECK.due("loads", times, () -> maker.count(3));
            CHECK.due("stores", times, () -> maker.count(4));
            CHECK.due("copies left out", times, () -> maker.count(5));
        }
        maker.restart();
        for (int what = 3; what <= 5; what++) {
            int which = what;
            CHECK.due("count(" + what + ") back at the beginning", 0, () -> maker.count(which));
        }
    }

    private static void countOfOutputs() {
        CHECK.due("none", 0, () -> counter(0).count(6));
        CHECK.due("sixteen", 16, () -> counter(16).count(6));
        CHECK.due("more than are kept", 17, () -> counter(17).count(6));
        CHECK.due("many more", 1600, () -> counter(1600).count(6));
    }

    private static void countOfTheEnd() {
        CHECK.due("an empty program", 1, () -> builtWith(1).count(7));
        RoomMaker maker = built(threeAtOnce());
        CHECK.due("at first", 0, () -> maker.count(7));
        maker.run(5);
        CHECK.due("ahead of the last", 0, () -> maker.count(7));
        maker.run(1);
        CHECK.due("behind the last", 1, () -> maker.count(7));
        maker.restart();
        CHECK.due("back at the beginning", 0, () -> maker.count(7));
    }

    private static void countOfInputs() {
        RoomMaker maker = with(row(READ, 0), row(GO, 0));
        CHECK.due("none", 0, () -> maker.count(8));
        for (int i = 0; i < 32; i++) {
            maker.give(i);
        }
        CHECK.due("when nothing is built", 32, () -> maker.count(8));
        maker.give(1);
        CHECK.due("one was refused", 32, () -> maker.count(8));
        maker.build(1);
        maker.run(1);
        CHECK.due("one is read", 31, () -> maker.count(8));
        maker.run(200);
        CHECK.due("never fewer than none", 0, () -> maker.count(8));
        RoomMaker put = halfway();
        put.put(WRITE, 0, 0, 0);
        CHECK.due("put leaves them", 1, () -> put.count(8));
    }

    private static void countOfOthers() {
        for (RoomMaker maker : new RoomMaker[] {new RoomMaker(), halfway(), builtWith(1), counter(20)}) {
            for (int what : row(-1, 9, 10, 16, MIN, MAX)) {
                CHECK.due("count(" + what + ")", NONE, () -> maker.count(what));
            }
        }
    }

    private static void countWhenNothingIsBuilt() {
        for (RoomMaker maker : unbuilt()) {
            for (int what = 1; what <= 7; what++) {
                int which = what;
                CHECK.due("count(" + what + ")", NONE, () -> maker.count(which));
            }
        }
    }
}
