/** The boundary cases of promises 6 to 9: each sentence that names one has a test of its own. */
public final class TellingEdgeTest extends Programs {
    private static final Check CHECK = new Check();

    private static final int[] NO_VALUES = {-1, 16, 17, 31, MIN, MAX};

    public static void main(String[] args) {
        span();
        lives();
        place();
        pressure();
        CHECK.end();
    }

    private static void span() {
        CHECK.sentence("6: The first point of a value's span (last: the last one)", TellingEdgeTest::bothEnds);
        CHECK.sentence("6: NONE without one", TellingEdgeTest::spanOfNoSpan);
        CHECK.sentence("6: or when nothing is built", TellingEdgeTest::spanWhenNothingIsBuilt);
        CHECK.sentence("6: when there is no such value", TellingEdgeTest::spanOfNoValue);
        CHECK.sentence("6: when there is no such value, nor anything built", TellingEdgeTest::spanOfNoValueUnbuilt);
    }

    private static void lives() {
        CHECK.sentence("7: Whether a value lives at a point", TellingEdgeTest::livesAtFirstAndLastPoint);
        CHECK.sentence("7: false when nothing is built", TellingEdgeTest::livesWhenNothingIsBuilt);
        CHECK.sentence("7: when there is no such value", TellingEdgeTest::livesOfNoValue);
        CHECK.sentence("7: when there is no such value, nor anything built", TellingEdgeTest::livesOfNoValueUnbuilt);
        CHECK.sentence("7: or (of what was built) point", TellingEdgeTest::livesAtNoPoint);
        CHECK.sentence("7: or point: an empty program has none", TellingEdgeTest::livesOfAnEmptyProgram);
        CHECK.sentence("7: or point: 64 instructions have 128", TellingEdgeTest::livesOfAFullProgram);
        CHECK.sentence("7: (of what was built)", TellingEdgeTest::pointsAreThoseOfWhatWasBuilt);
        CHECK.sentence("7: Whether a value lives, not whether it did", TellingEdgeTest::livesInTheNextProgram);
    }

    private static void place() {
        CHECK.sentence("8: its register", TellingEdgeTest::firstAndLastRegister);
        CHECK.sentence("8: 16 + its stack place", TellingEdgeTest::firstAndLastStackPlace);
        CHECK.sentence("8: NONE without a span", TellingEdgeTest::placeOfNoSpan);
        CHECK.sentence("8: or when nothing is built", TellingEdgeTest::placeWhenNothingIsBuilt);
        CHECK.sentence("8: when there is no such value", TellingEdgeTest::placeOfNoValue);
        CHECK.sentence("8: when there is no such value, nor anything built", TellingEdgeTest::placeOfNoValueUnbuilt);
    }

    private static void pressure() {
        CHECK.sentence("9: The most values", TellingEdgeTest::leastAndGreatestPressure);
        CHECK.sentence("9: whose spans have one and the same point", TellingEdgeTest::spansThatTouch);
        CHECK.sentence("9: whose spans, though they do not live there", TellingEdgeTest::spansWithHoles);
        CHECK.sentence("9: whatever the registers", TellingEdgeTest::pressureHasNoRegisters);
        CHECK.sentence("9: NONE when nothing is built", TellingEdgeTest::pressureWhenNothingIsBuilt);
    }

    /** An object on which nothing is built, by each way that leads there. */
    private static RoomMaker[] unbuilt() {
        RoomMaker put = halfway();
        put.put(WRITE, 0, 0, 0);
        RoomMaker cleared = halfway();
        cleared.clear();
        RoomMaker astray = halfway();
        astray.put(GO, 64, 0, 0);
        Check.outcome(() -> astray.build(1));
        RoomMaker full = fullWith(WRITE, 0);
        full.build(1);
        full.put(WRITE, 0, 0, 0);
        return new RoomMaker[] {new RoomMaker(), threeAtOnce(), put, cleared, astray, full};
    }

    private static void bothEnds() {
        RoomMaker maker = builtWith(1, row(WRITE, 0), row(SET, 15, 1));
        CHECK.due("span(0, false)", 0, () -> maker.span(0, false));
        CHECK.due("span(0, true)", 0, () -> maker.span(0, true));
        CHECK.due("span(15, false)", 3, () -> maker.span(15, false));
        CHECK.due("span(15, true)", 3, () -> maker.span(15, true));
        RoomMaker whole = fullWith(SET, 0, 1);
        whole.build(1);
        CHECK.due("the first of all points", 0, () -> whole.span(0, false));
        CHECK.due("the last of all points", 127, () -> whole.span(0, true));
    }

    private static void spanOfNoSpan() {
        RoomMaker maker = builtWith(1, row(SET, 3, 7), row(WRITE, 3));
        for (int v : row(0, 2, 4, 7, 15)) {
            CHECK.due("span(" + v + ", false)", NONE, () -> maker.span(v, false));
            CHECK.due("span(" + v + ", true)", NONE, () -> maker.span(v, true));
        }
        maker.clear();
        maker.build(1);
        CHECK.due("v3 has none in the next program", NONE, () -> maker.span(3, false));
        CHECK.due("nor an end of it", NONE, () -> maker.span(3, true));
    }

    private static void spanWhenNothingIsBuilt() {
        for (RoomMaker maker : unbuilt()) {
            for (int v : row(0, 1, 15)) {
                CHECK.due("span(" + v + ", false)", NONE, () -> maker.span(v, false));
                CHECK.due("span(" + v + ", true)", NONE, () -> maker.span(v, true));
            }
        }
    }

    private static void spanOfNoValue() {
        RoomMaker maker = halfway();
        for (int v : NO_VALUES) {
            CHECK.outOfBounds("span(" + v + ", false)", () -> maker.span(v, false));
            CHECK.outOfBounds("span(" + v + ", true)", () -> maker.span(v, true));
        }
    }

    private static void spanOfNoValueUnbuilt() {
        for (RoomMaker maker : unbuilt()) {
            for (int v : NO_VALUES) {
                CHECK.outOfBounds("span(" + v + ", false)", () -> maker.span(v, false));
                CHECK.outOfBounds("span(" + v + ", true)", () -> maker.span(v, true));
            }
        }
    }

    private static void livesAtFirstAndLastPoint() {
        RoomMaker maker = builtWith(1, row(WRITE, 0), row(WRITE, 15), row(SAME, 1, 1, 0));
        CHECK.due("lives(0, 0)", 1, () -> bit(maker.lives(0, 0)));
        CHECK.due("lives(0, 5)", 1, () -> bit(maker.lives(0, 5)));
        CHECK.due("lives(15, 0)", 1, () -> bit(maker.lives(15, 0)));
        CHECK.due("lives(15, 5)", 1, () -> bit(maker.lives(15, 5)));
        CHECK.due("lives(2, 0)", 0, () -> bit(maker.lives(2, 0)));
        CHECK.due("lives(2, 5)", 0, () -> bit(maker.lives(2, 5)));
    }

    private static void livesWhenNothingIsBuilt() {
        for (RoomMaker maker : unbuilt()) {
            for (int point : row(0, 1, 2, 15, 127, 128, -1, MIN, MAX)) {
                CHECK.due("lives(0, " + point + ")", 0, () -> bit(maker.lives(0, point)));
                CHECK.due("lives(15, " + point + ")", 0, () -> bit(maker.lives(15, point)));
            }
        }
    }

    private static void livesOfNoValue() {
        RoomMaker maker = halfway();
        for (int v : NO_VALUES) {
            CHECK.outOfBounds("lives(" + v + ", 0)", () -> bit(maker.lives(v, 0)));
            CHECK.outOfBounds("lives(" + v + ", 99)", () -> bit(maker.lives(v, 99)));
        }
    }

    private static void livesOfNoValueUnbuilt() {
        for (RoomMaker maker : unbuilt()) {
            for (int v : NO_VALUES) {
                CHECK.outOfBounds("lives(" + v + ", 0)", () -> bit(maker.lives(v, 0)));
            }
        }
    }

    private static void livesAtNoPoint() {
        RoomMaker maker = builtWith(1, row(WRITE, 0), row(WRITE, 0));
        for (int point : row(-1, -2, 4, 5, 127, 128, MIN, MAX)) {
            CHECK.outOfBounds("lives(0, " + point + ")", () -> bit(maker.lives(0, point)));
            CHECK.outOfBounds("lives(15, " + point + ")", () -> bit(maker.lives(15, point)));
        }
        CHECK.due("lives(0, 3)", 0, () -> bit(maker.lives(0, 3)));
    }

    private static void livesOfAnEmptyProgram() {
        RoomMaker maker = builtWith(1);
        for (int point : row(-1, 0, 1, MIN, MAX)) {
            CHECK.outOfBounds("lives(0, " + point + ")", () -> bit(maker.lives(0, point)));
        }
    }

    private static void livesOfAFullProgram() {
        RoomMaker maker = fullWith(GO, 0);
        maker.build(1);
        CHECK.due("lives(0, 0)", 1, () -> bit(maker.lives(0, 0)));
        CHECK.due("lives(0, 127)", 1, () -> bit(maker.lives(0, 127)));
        CHECK.outOfBounds("lives(0, 128)", () -> bit(maker.lives(0, 128)));
        CHECK.outOfBounds("lives(0, -1)", () -> bit(maker.lives(0, -1)));
    }

    private static void pointsAreThoseOfWhatWasBuilt() {
        RoomMaker maker = fullWith(GO, 0);
        maker.build(1);
        maker.clear();
        maker.put(WRITE, 0, 0, 0);
        CHECK.due("nothing is built", 0, () -> bit(maker.lives(0, 2)));
        maker.build(1);
        CHECK.due("lives(0, 1)", 0, () -> bit(maker.lives(0, 1)));
        CHECK.outOfBounds("lives(0, 2)", () -> bit(maker.lives(0, 2)));
        CHECK.illegalArgument("a put that throws", () -> maker.put(SET, 16, 0, 0));
        CHECK.outOfBounds("lives(0, 2)", () -> bit(maker.lives(0, 2)));
    }

    private static void livesInTheNextProgram() {
        RoomMaker maker = everyValue(1);
        maker.clear();
        append(maker, row(GO, 1), row(GO, 0));
        maker.build(1);
        for (int point = 0; point < 4; point++) {
            int here = point;
            CHECK.due("lives(0, " + point + ")", 0, () -> bit(maker.lives(0, here)));
            CHECK.due("lives(15, " + point + ")", 0, () -> bit(maker.lives(15, here)));
        }
        CHECK.due("pressure()", 0, maker::pressure);
    }

    private static RoomMaker everyValue(int registers) {
        RoomMaker maker = new RoomMaker();
        for (int v = 0; v < 16; v++) {
            maker.put(WRITE, v, 0, 0);
        }
        maker.build(registers);
        return maker;
    }

    private static void firstAndLastRegister() {
        RoomMaker maker = everyValue(8);
        for (int v = 0; v < 8; v++) {
            int value = v;
            CHECK.due("place(" + v + ")", v, () -> maker.place(value));
        }
    }

    private static void firstAndLastStackPlace() {
        RoomMaker eight = everyValue(8);
        CHECK.due("the first of eight", 16, () -> eight.place(8));
        CHECK.due("the last of eight", 23, () -> eight.place(15));
        RoomMaker fifteen = everyValue(1);
        CHECK.due("the first of fifteen", 16, () -> fifteen.place(1));
        CHECK.due("the last of fifteen", 30, () -> fifteen.place(15));
    }

    private static void placeOfNoSpan() {
        RoomMaker maker = builtWith(1, row(SET, 3, 7), row(WRITE, 3));
        for (int v : row(0, 2, 4, 7, 15)) {
            CHECK.due("place(" + v + ")", NONE, () -> maker.place(v));
        }
        maker.clear();
        maker.build(1);
        CHECK.due("v3 has none in the next program", NONE, () -> maker.place(3));
    }

    private static void placeWhenNothingIsBuilt() {
        for (RoomMaker maker : unbuilt()) {
            for (int v : row(0, 1, 15)) {
                CHECK.due("place(" + v + ")", NONE, () -> maker.place(v));
            }
        }
    }

    private static void placeOfNoValue() {
        RoomMaker maker = halfway();
        for (int v : NO_VALUES) {
            CHECK.outOfBounds("place(" + v + ")", () -> maker.place(v));
        }
    }

    private static void placeOfNoValueUnbuilt() {
        for (RoomMaker maker : unbuilt()) {
            for (int v : NO_VALUES) {
                CHECK.outOfBounds("place(" + v + ")", () -> maker.place(v));
            }
        }
    }

    private static void leastAndGreatestPressure() {
        CHECK.due("of no program", 0, () -> builtWith(1).pressure());
        CHECK.due("of no value", 0, () -> builtWith(1, row(GO, 0)).pressure());
        CHECK.due("of one value", 1, () -> builtWith(1, row(SET, 15, 1)).pressure());
        CHECK.due("of sixteen values", 16, () -> everyValue(8).pressure());
        CHECK.due("at point 0 alone", 1, () -> builtWith(1, row(WRITE, 0)).pressure());
        CHECK.due("at point 127 alone", 1, TellingEdgeTest::pressureAtTheLastPoint);
    }

    private static long pressureAtTheLastPoint() {
        RoomMaker maker = new RoomMaker();
        for (int i = 0; i < 63; i++) {
            maker.put(GO, 64, 0, 0);
        }
        maker.put(SET, 0, 1, 0);
        maker.build(1);
        return maker.pressure();
    }

    private static void spansThatTouch() {
        RoomMaker nextTo = builtWith(1, row(COPY, 1, 0), row(COPY, 2, 1), row(WRITE, 2));
        CHECK.due("one ends at 0, another begins at 1", 1, nextTo::pressure);
        RoomMaker onePoint = builtWith(1, row(SET, 0, 1), row(GO, 3), row(ADD, 2, 0, 1));
        CHECK.due("one ends at 4, where another begins", 2, onePoint::pressure);
        RoomMaker behind = builtWith(2, row(SET, 0, 1), row(SET, 1, 1), row(WRITE, 0));
        CHECK.due("one that is never read, within another", 2, behind::pressure);
    }

    private static void spansWithHoles() {
        RoomMaker hole = builtWith(1, row(SET, 0, 1), row(WRITE, 0), row(SET, 1, 1), row(SET, 0, 2), row(WRITE, 0));
        CHECK.due("v1 is set while v0 does not live", 2, hole::pressure);
        RoomMaker neverRead = builtWith(1, row(SET, 0, 1), row(SET, 1, 1), row(SET, 2, 1), row(SET, 0, 1));
        CHECK.due("none of them lives anywhere", 2, neverRead::pressure);
    }

    private static void pressureHasNoRegisters() {
        RoomMaker maker = threeAtOnce();
        for (int r = 1; r <= 8; r++) {
            maker.build(r);
            CHECK.due("in " + r + " registers", 3, maker::pressure);
        }
    }

    private static void pressureWhenNothingIsBuilt() {
        for (RoomMaker maker : unbuilt()) {
            CHECK.due("pressure()", NONE, maker::pressure);
        }
    }
}
