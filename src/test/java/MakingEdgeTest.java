/** The boundary cases of promises 1 to 5: each sentence that names one has a test of its own. */
public final class MakingEdgeTest extends Programs {
    private static final Check CHECK = new Check();

    /** What x, y and z are, sort by sort: v a value, g a number to go to, n any number, - nothing. */
    private static final String[] SHAPES = {
        "vn-", "vvv", "vvv", "vvv", "vv-", "v--", "vv-", "vv-", "v--", "g--", "vvg", "vvg"};

    public static void main(String[] args) {
        newObject();
        put();
        clear();
        give();
        build();
        CHECK.end();
    }

    private static void newObject() {
        CHECK.sentence("1: No program", MakingEdgeTest::noProgram);
        CHECK.sentence("1: No program, so nothing is built", MakingEdgeTest::nothingIsBuilt);
        CHECK.sentence("1: No program, nor inputs", MakingEdgeTest::noInputs);
        CHECK.sentence("1: A new object, whatever others do", MakingEdgeTest::objectsAreApart);
    }

    private static void put() {
        CHECK.sentence("2: The next instruction: how many there are", MakingEdgeTest::putCounts);
        CHECK.sentence("2: NONE when there are 64", MakingEdgeTest::putWhenFull);
        CHECK.sentence("2: What was built is gone", MakingEdgeTest::putForgetsWhatWasBuilt);
        CHECK.sentence("2: whatever it answers", MakingEdgeTest::putWhenFullForgetsWhatWasBuilt);
        CHECK.sentence("2: not when it throws", MakingEdgeTest::wrongPutChangesNothing);
        CHECK.sentence("2: when the sort is not 0 .. 11", MakingEdgeTest::putOfNoSort);
        CHECK.sentence("2: or x, y, z are not values (0 .. 15)", MakingEdgeTest::putOfNoValue);
        CHECK.sentence("2: or numbers to go to (0 .. 64)", MakingEdgeTest::putOfNoTarget);
        CHECK.sentence("2: or not 0 where none stands", MakingEdgeTest::putOfSomethingWhereNothingStands);
        CHECK.sentence("2: where such stand (y of SET is any number)", MakingEdgeTest::putOfAnyNumber);
        CHECK.sentence("2: throws, when there are 64 too", MakingEdgeTest::wrongPutWhenFull);
    }

    private static void clear() {
        CHECK.sentence("3: how many instructions there were", MakingEdgeTest::clearCounts);
        CHECK.sentence("3: No program", MakingEdgeTest::clearOfAFullProgram);
        CHECK.sentence("3: No program, so nothing is built", MakingEdgeTest::clearForgetsWhatWasBuilt);
        CHECK.sentence("3: no inputs", MakingEdgeTest::clearOfFullInputs);
        CHECK.sentence("3: how many there were: 0 without a program", MakingEdgeTest::clearOfNothing);
    }

    private static void give() {
        CHECK.sentence("4: An input behind others", MakingEdgeTest::inputsInOrder);
        CHECK.sentence("4: how many wait", MakingEdgeTest::giveCounts);
        CHECK.sentence("4: NONE when there are 32", MakingEdgeTest::giveWhenFull);
        CHECK.sentence("4: when there are 32, not when there were", MakingEdgeTest::giveWhenThereIsRoomAgain);
        CHECK.sentence("4: An input behind others, round and round", MakingEdgeTest::inputsGoRound);
        CHECK.sentence("4: An input is any int", MakingEdgeTest::anyInput);
        CHECK.sentence("4: An input, and nothing else changes", MakingEdgeTest::giveLeavesTheRun);
    }

    private static void build() {
        CHECK.sentence("5: r registers (1 .. 8)", MakingEdgeTest::buildAtItsEdges);
        CHECK.sentence("5: how many values have stack places", MakingEdgeTest::buildCounts);
        CHECK.sentence("5: a run begins (as at first)", MakingEdgeTest::buildBeginsARun);
        CHECK.sentence("5: The program, though it is empty", MakingEdgeTest::buildOfNothing);
        CHECK.sentence("5: IllegalArgumentException when r is not so", MakingEdgeTest::buildOfNoRegisters);
        CHECK.sentence("5: when r is not so nothing changes", MakingEdgeTest::wrongBuildChangesNothing);
        CHECK.sentence("5: else IllegalStateException", MakingEdgeTest::registersAreLookedAtFirst);
        CHECK.sentence("5: when one goes to where nothing is", MakingEdgeTest::buildOfWhatGoesAstray);
        CHECK.sentence("5: to where nothing is, not to the END", MakingEdgeTest::buildOfWhatGoesToTheEnd);
        CHECK.sentence("5: when one goes astray nothing is built", MakingEdgeTest::astrayIsNotBuilt);
    }

    private static void noProgram() {
        CHECK.due("instructions", 0, () -> new RoomMaker().count(0));
        CHECK.due("clear()", 0, () -> new RoomMaker().clear());
        CHECK.due("the first put", 1, () -> new RoomMaker().put(WRITE, 0, 0, 0));
        CHECK.due("build(1)", 0, () -> new RoomMaker().build(1));
    }

    private static void nothingIsBuilt() {
        nothingIsBuilt(new RoomMaker());
    }

    private static void nothingIsBuilt(RoomMaker maker) {
        CHECK.due("span(0, false)", NONE, () -> maker.span(0, false));
        CHECK.due("span(0, true)", NONE, () -> maker.span(0, true));
        CHECK.due("lives(0, 0)", 0, () -> bit(maker.lives(0, 0)));
        CHECK.due("place(0)", NONE, () -> maker.place(0));
        CHECK.due("pressure()", NONE, maker::pressure);
        CHECK.illegalState("run(1)", () -> maker.run(1));
        CHECK.due("restart()", 0, () -> bit(maker.restart()));
        CHECK.illegalState("value(0)", () -> maker.value(0));
        for (int what = 1; what <= 7; what++) {
            int which = what;
            CHECK.due("count(" + what + ")", NONE, () -> maker.count(which));
        }
    }

    private static void noInputs() {
        CHECK.due("count(8)", 0, () -> new RoomMaker().count(8));
        CHECK.due("the first give", 1, () -> new RoomMaker().give(5));
        RoomMaker maker = builtWith(1, row(SET, 0, 7), row(READ, 0), row(WRITE, 0));
        maker.run(2);
        CHECK.due("what is read", 0, () -> maker.value(0));
    }

    private static void objectsAreApart() {
        RoomMaker still = new RoomMaker();
        RoomMaker busy = halfway();
        busy.run(1);
        CHECK.same("the other object", stateOf(new RoomMaker()), stateOf(still));
        RoomMaker one = halfway();
        String before = stateOf(one);
        RoomMaker two = threeAtOnce();
        two.give(1);
        two.build(2);
        two.run(6);
        two.clear();
        CHECK.same("an object in the midst of a run", before, stateOf(one));
    }

    private static void putCounts() {
        RoomMaker maker = new RoomMaker();
        for (int i = 1; i <= 64; i++) {
            CHECK.due("put number " + i, i, () -> maker.put(WRITE, 0, 0, 0));
            CHECK.due("instructions", i, () -> maker.count(0));
        }
    }

    private static void putWhenFull() {
        RoomMaker maker = fullWith(SET, 1, 1);
        CHECK.due("the 65th", NONE, () -> maker.put(WRITE, 1, 0, 0));
        CHECK.due("the 66th", NONE, () -> maker.put(GO, 0, 0, 0));
        CHECK.due("instructions", 64, () -> maker.count(0));
        maker.build(1);
        CHECK.due("the first and the last are what they were", 64, () -> maker.run(5000));
        CHECK.due("63 are written", 63, () -> maker.count(6));
    }

    private static void putForgetsWhatWasBuilt() {
        RoomMaker maker = halfway();
        CHECK.due("put", 9, () -> maker.put(WRITE, 0, 0, 0));
        nothingIsBuilt(maker);
        CHECK.due("the input that waits stays", 1, () -> maker.count(8));
    }

    private static void putWhenFullForgetsWhatWasBuilt() {
        RoomMaker maker = fullWith(SET, 1, 1);
        maker.build(1);
        maker.run(2);
        CHECK.due("put", NONE, () -> maker.put(WRITE, 0, 0, 0));
        nothingIsBuilt(maker);
        CHECK.due("instructions", 64, () -> maker.count(0));
    }

    private static void wrongPutChangesNothing() {
        RoomMaker maker = halfway();
        String before = stateOf(maker);
        for (int[] wrong : new int[][] {row(12, 0, 0, 0), row(-1, 0, 0, 0), row(SET, 16, 0, 0), row(ADD, 0, 0, -1),
            row(GO, 65, 0, 0), row(SAME, 0, 0, -1), row(READ, 0, 1, 0), row(SET, 0, 0, 1)}) {
            CHECK.illegalArgument("a wrong put", () -> maker.put(wrong[0], wrong[1], wrong[2], wrong[3]));
        }
        CHECK.same("what was built, and its run", before, stateOf(maker));
        CHECK.due("it goes on", 2, () -> maker.run(2));
        RoomMaker full = fullWith(SET, 1, 1);
        full.build(1);
        full.run(2);
        CHECK.illegalArgument("a wrong put when there are 64", () -> full.put(12, 0, 0, 0));
        CHECK.due("what was built is there still", 2, () -> full.count(1));
    }

    private static void wrongPutWhenFull() {
        RoomMaker maker = fullWith(SET, 1, 1);
        CHECK.illegalArgument("no sort", () -> maker.put(12, 0, 0, 0));
        CHECK.illegalArgument("no value", () -> maker.put(WRITE, 16, 0, 0));
        CHECK.illegalArgument("no number to go to", () -> maker.put(GO, 65, 0, 0));
        CHECK.illegalArgument("not 0", () -> maker.put(WRITE, 0, 1, 0));
    }

    private static void putOfNoSort() {
        for (int sort : row(-1, 12, 13, 16, MIN, MAX)) {
            CHECK.illegalArgument("sort " + sort, () -> new RoomMaker().put(sort, 0, 0, 0));
        }
        CHECK.due("sort 0", 1, () -> new RoomMaker().put(0, 0, 0, 0));
        CHECK.due("sort 11", 1, () -> new RoomMaker().put(11, 0, 0, 0));
    }

    /** Puts each sort that has the sign at some position, with each number there and 0 elsewhere. */
    private static void putWherever(char sign, boolean allowed, int... numbers) {
        for (int sort = 0; sort < 12; sort++) {
            for (int position = 0; position < 3; position++) {
                if (SHAPES[sort].charAt(position) == sign) {
                    putEach(sort, position, allowed, numbers);
                }
            }
        }
    }

    private static void putEach(int sort, int position, boolean allowed, int[] numbers) {
        for (int number : numbers) {
            int[] xyz = new int[3];
            xyz[position] = number;
            RoomMaker maker = new RoomMaker();
            String what = "put(" + sort + ", " + xyz[0] + ", " + xyz[1] + ", " + xyz[2] + ")";
            if (allowed) {
                CHECK.due(what, 1, () -> maker.put(sort, xyz[0], xyz[1], xyz[2]));
            } else {
                CHECK.illegalArgument(what, () -> maker.put(sort, xyz[0], xyz[1], xyz[2]));
            }
            CHECK.due("instructions behind " + what, bit(allowed), () -> maker.count(0));
        }
    }

    private static void putOfNoValue() {
        putWherever('v', false, -1, 16, 17, 64, MIN, MAX);
        putWherever('v', true, 0, 1, 14, 15);
    }

    private static void putOfNoTarget() {
        putWherever('g', false, -1, 65, 66, MIN, MAX);
        putWherever('g', true, 0, 1, 16, 63, 64);
    }

    private static void putOfSomethingWhereNothingStands() {
        putWherever('-', false, -1, 1, 15, 64, MIN, MAX);
        putWherever('-', true, 0);
    }

    private static void putOfAnyNumber() {
        putWherever('n', true, MIN, -1, 0, 16, 65, MAX);
    }

    private static void clearCounts() {
        CHECK.due("one", 1, () -> with(row(WRITE, 0)).clear());
        CHECK.due("all 64", 64, () -> fullWith(SET, 1, 1).clear());
        RoomMaker refused = fullWith(SET, 1, 1);
        refused.put(WRITE, 0, 0, 0);
        CHECK.due("those that were refused are none", 64, refused::clear);
        CHECK.due("clear() again", 0, refused::clear);
    }

    private static void clearOfAFullProgram() {
        RoomMaker maker = fullWith(GO, 64);
        maker.clear();
        CHECK.due("instructions", 0, () -> maker.count(0));
        CHECK.due("an empty program is built", 0, () -> maker.build(1));
        CHECK.due("none of its values has a span", NONE, () -> maker.span(0, false));
        CHECK.due("there is room again", 1, () -> maker.put(SET, 3, 9, 0));
        maker.build(1);
        CHECK.due("the new one alone is done", 1, () -> maker.run(5000));
        CHECK.due("v3", 9, () -> maker.value(3));
    }

    private static void clearForgetsWhatWasBuilt() {
        RoomMaker maker = halfway();
        maker.clear();
        nothingIsBuilt(maker);
    }

    private static void clearOfFullInputs() {
        RoomMaker maker = reader();
        giveMany(maker, 1, 32);
        maker.build(1);
        maker.run(6);
        giveMany(maker, 33, 34);
        maker.clear();
        CHECK.due("none waits", 0, () -> maker.count(8));
        CHECK.due("the next that is given is the first", 1, () -> maker.give(77));
        append(maker, row(READ, 0), row(WRITE, 0), row(READ, 0), row(WRITE, 0));
        maker.build(1);
        maker.run(4);
        CHECK.due("the one that is read", 77, () -> maker.output(1));
        CHECK.due("then there is none", 0, () -> maker.output(0));
    }

    private static void clearOfNothing() {
        RoomMaker maker = new RoomMaker();
        CHECK.due("clear()", 0, maker::clear);
        CHECK.same("all else", stateOf(new RoomMaker()), stateOf(maker));
        maker.give(5);
        CHECK.due("clear() of inputs alone", 0, maker::clear);
        CHECK.due("they are gone", 0, () -> maker.count(8));
        maker.build(1);
        CHECK.due("clear() of an empty program that was built", 0, maker::clear);
        nothingIsBuilt(maker);
    }

    private static void giveMany(RoomMaker maker, int first, int last) {
        for (int number = first; number <= last; number++) {
            maker.give(number);
        }
    }

    /** Reads and writes on and on. */
    private static RoomMaker reader() {
        return with(row(READ, 0), row(WRITE, 0), row(GO, 0));
    }

    private static void readIs(RoomMaker maker, int due) {
        maker.run(3);
        CHECK.due("the next that is read", due, () -> maker.output(0));
    }

    private static void inputsInOrder() {
        RoomMaker maker = reader();
        maker.give(3);
        maker.give(1);
        maker.build(1);
        maker.give(2);
        readIs(maker, 3);
        maker.give(4);
        readIs(maker, 1);
        readIs(maker, 2);
        readIs(maker, 4);
    }

    private static void giveCounts() {
        RoomMaker maker = new RoomMaker();
        for (int i = 1; i <= 32; i++) {
            CHECK.due("give number " + i, i, () -> maker.give(0));
            CHECK.due("how many wait", i, () -> maker.count(8));
        }
    }

    private static void giveWhenFull() {
        RoomMaker maker = reader();
        giveMany(maker, 101, 132);
        CHECK.due("the 33rd", NONE, () -> maker.give(7));
        CHECK.due("the 34th", NONE, () -> maker.give(8));
        CHECK.due("how many wait", 32, () -> maker.count(8));
        maker.build(1);
        for (int i = 101; i <= 132; i++) {
            readIs(maker, i);
        }
        readIs(maker, 0);
    }

    private static void giveWhenThereIsRoomAgain() {
        RoomMaker maker = reader();
        giveMany(maker, 101, 132);
        maker.build(1);
        readIs(maker, 101);
        CHECK.due("one is read, one is given", 32, () -> maker.give(133));
        CHECK.due("one more", NONE, () -> maker.give(134));
        readIs(maker, 102);
        maker.run(3 * 31);
        CHECK.due("the last", 133, () -> maker.output(0));
        CHECK.due("the one ahead of it", 132, () -> maker.output(1));
        CHECK.due("none waits", 0, () -> maker.count(8));
        CHECK.due("all 32 again", 1, () -> maker.give(1));
    }

    private static void inputsGoRound() {
        RoomMaker maker = reader();
        maker.build(1);
        giveMany(maker, 1, 31);
        for (int i = 32; i < 132; i++) {
            int number = i;
            CHECK.due("how many wait", 32, () -> maker.give(number));
            readIs(maker, i - 31);
        }
    }

    private static void anyInput() {
        for (int number : row(MIN, -1, 0, 1, MAX)) {
            RoomMaker maker = reader();
            CHECK.due("give(" + number + ")", 1, () -> maker.give(number));
            maker.build(1);
            readIs(maker, number);
        }
    }

    private static void giveLeavesTheRun() {
        RoomMaker maker = halfway();
        String before = withoutInputs(stateOf(maker));
        CHECK.due("give(1)", 2, () -> maker.give(1));
        CHECK.same("all but the inputs", before, withoutInputs(stateOf(maker)));
    }

    private static void buildAtItsEdges() {
        RoomMaker maker = threeAtOnce();
        CHECK.due("build(1)", 2, () -> maker.build(1));
        CHECK.due("build(8)", 0, () -> maker.build(8));
        RoomMaker all = everyValue();
        for (int r = 1; r <= 8; r++) {
            int registers = r;
            CHECK.due("sixteen values, build(" + r + ")", 16 - r, () -> all.build(registers));
            CHECK.due("the last register is used", r - 1, () -> all.place(registers - 1));
            CHECK.due("the next value has a stack place", 16, () -> all.place(registers));
        }
    }

    private static RoomMaker everyValue() {
        RoomMaker maker = new RoomMaker();
        for (int v = 0; v < 16; v++) {
            maker.put(WRITE, v, 0, 0);
        }
        return maker;
    }

    private static void buildCounts() {
        CHECK.due("no value has a span", 0, () -> with(row(GO, 0)).build(1));
        CHECK.due("one value", 0, () -> with(row(WRITE, 0)).build(1));
        CHECK.due("two one behind the other", 0, () -> with(row(SET, 0, 1), row(SET, 1, 1)).build(1));
        CHECK.due("two at once", 1, () -> with(row(LESS, 0, 1, 1)).build(1));
        CHECK.due("the most there can be", 15, () -> everyValue().build(1));
    }

    private static void buildBeginsARun() {
        RoomMaker maker = halfway();
        maker.build(1);
        for (int v = 0; v < 32; v++) {
            int which = v;
            CHECK.due("value(" + v + ")", 0, () -> maker.value(which));
        }
        for (int what = 1; what <= 7; what++) {
            int which = what;
            CHECK.due("count(" + what + ")", 0, () -> maker.count(which));
        }
        CHECK.due("output(0)", 0, () -> maker.output(0));
        CHECK.due("the input that waits", 1, () -> maker.count(8));
        maker.run(5);
        CHECK.due("it is read first", 9, () -> maker.value(0));
    }

    private static void buildOfNothing() {
        for (int r : row(1, 8)) {
            RoomMaker maker = new RoomMaker();
            CHECK.due("build(" + r + ")", 0, () -> maker.build(r));
            CHECK.due("it is at the end", 1, () -> maker.count(7));
            CHECK.due("what comes next", 0, () -> maker.count(1));
            CHECK.due("restart()", 1, () -> bit(maker.restart()));
            CHECK.due("a value", 0, () -> maker.value(0));
        }
    }

    private static void buildOfNoRegisters() {
        for (int r : row(0, 9, -1, 16, MIN, MAX)) {
            CHECK.illegalArgument("build(" + r + ")", () -> threeAtOnce().build(r));
            CHECK.illegalArgument("build(" + r + ") of no program", () -> new RoomMaker().build(r));
        }
    }

    private static void wrongBuildChangesNothing() {
        RoomMaker maker = halfway();
        String before = stateOf(maker);
        CHECK.illegalArgument("build(0)", () -> maker.build(0));
        CHECK.illegalArgument("build(9)", () -> maker.build(9));
        CHECK.same("what was built, and its run", before, stateOf(maker));
        RoomMaker fresh = threeAtOnce();
        CHECK.illegalArgument("build(9)", () -> fresh.build(9));
        nothingIsBuilt(fresh);
    }

    private static void registersAreLookedAtFirst() {
        CHECK.illegalArgument("build(0)", () -> with(row(GO, 2)).build(0));
        CHECK.illegalArgument("build(9)", () -> with(row(GO, 2)).build(9));
        CHECK.illegalState("build(1)", () -> with(row(GO, 2)).build(1));
        CHECK.illegalState("build(8)", () -> with(row(GO, 2)).build(8));
    }

    private static int[][] waysTo(int target) {
        return new int[][] {row(GO, target), row(LESS, 0, 0, target), row(SAME, 0, 0, target)};
    }

    private static void buildOfWhatGoesAstray() {
        for (int target : row(3, 4, 63, 64)) {
            for (int[] way : waysTo(target)) {
                CHECK.illegalState("the first goes to " + target, () -> with(way, row(WRITE, 0)).build(1));
                CHECK.illegalState("the last goes to " + target, () -> with(row(WRITE, 0), way).build(1));
                CHECK.illegalState("one that is never done goes to " + target,
                    () -> with(row(GO, 2), way).build(1));
            }
        }
        RoomMaker oneTooFew = new RoomMaker();
        oneTooFew.put(GO, 64, 0, 0);
        for (int i = 1; i < 63; i++) {
            oneTooFew.put(WRITE, 0, 0, 0);
        }
        CHECK.illegalState("63 instructions, one goes to 64", () -> oneTooFew.build(1));
        oneTooFew.put(WRITE, 0, 0, 0);
        CHECK.due("one more, and it is the END", 0, () -> oneTooFew.build(1));
    }

    private static void buildOfWhatGoesToTheEnd() {
        for (int target : row(0, 1, 2)) {
            for (int[] way : waysTo(target)) {
                CHECK.due("of two the first goes to " + target, 0, () -> with(way, row(WRITE, 0)).build(1));
                CHECK.due("of two the last goes to " + target, 0, () -> with(row(WRITE, 0), way).build(1));
            }
        }
        for (int[] way : waysTo(64)) {
            CHECK.due("of 64 the last goes to 64", 0, () -> fullWith(way).build(1));
        }
        CHECK.due("numbers of SET lead nowhere", 0, () -> with(row(SET, 15, 65)).build(1));
        CHECK.due("nor do those of values", 2, () -> with(row(ADD, 15, 14, 13), row(LESS, 15, 14, 0)).build(1));
    }

    private static void astrayIsNotBuilt() {
        RoomMaker maker = halfway();
        maker.put(GO, 64, 0, 0);
        CHECK.illegalState("build(1)", () -> maker.build(1));
        nothingIsBuilt(maker);
        CHECK.due("the program stays", 9, () -> maker.count(0));
        CHECK.due("the input that waits stays", 1, () -> maker.count(8));
        for (int i = 9; i < 64; i++) {
            maker.put(WRITE, 0, 0, 0);
        }
        CHECK.due("it can be built when there are enough", 3, () -> maker.build(1));
    }
}
