/** The sorts by name, and short ways to make and look at programs, for the tests that extend it. */
abstract class Programs {
    static final int SET = 0;
    static final int ADD = 1;
    static final int SUB = 2;
    static final int MUL = 3;
    static final int COPY = 4;
    static final int READ = 5;
    static final int LOAD = 6;
    static final int STORE = 7;
    static final int WRITE = 8;
    static final int GO = 9;
    static final int LESS = 10;
    static final int SAME = 11;

    static final int NONE = RoomMaker.NONE;
    static final int MIN = Integer.MIN_VALUE;
    static final int MAX = Integer.MAX_VALUE;

    private static final String INPUTS = " inputs ";

    static int[] row(int... numbers) {
        return numbers;
    }

    /** A new object with a program; each row is a sort, x, y and z, of which the last may be left away. */
    static RoomMaker with(int[]... rows) {
        RoomMaker maker = new RoomMaker();
        append(maker, rows);
        return maker;
    }

    static void append(RoomMaker maker, int[]... rows) {
        for (int[] row : rows) {
            maker.put(row[0], row[1], row.length > 2 ? row[2] : 0, row.length > 3 ? row[3] : 0);
        }
    }

    static RoomMaker builtWith(int registers, int[]... rows) {
        RoomMaker maker = with(rows);
        maker.build(registers);
        return maker;
    }

    /** A new object with 64 instructions: 63 that write v0, and one behind them. */
    static RoomMaker fullWith(int... lastRow) {
        RoomMaker maker = new RoomMaker();
        for (int i = 0; i < 63; i++) {
            maker.put(WRITE, 0, 0, 0);
        }
        append(maker, lastRow);
        return maker;
    }

    /** v0 to v2 all live at once, and are written in their order. */
    static RoomMaker threeAtOnce() {
        return with(row(SET, 0, 1), row(SET, 1, 2), row(SET, 2, 3),
            row(WRITE, 0), row(WRITE, 1), row(WRITE, 2));
    }

    /** In the midst of a run that has used registers, stack, cells, inputs and outputs. */
    static RoomMaker halfway() {
        RoomMaker maker = with(row(READ, 0), row(READ, 1), row(COPY, 2, 1), row(STORE, 0, 2), row(WRITE, 2),
            row(WRITE, 0), row(LESS, 0, 1, 0), row(WRITE, 3));
        maker.give(5);
        maker.give(7);
        maker.give(9);
        maker.build(1);
        maker.run(6);
        return maker;
    }

    /** All that can be asked of an object without changing it, as a text; it takes 107 calls at most. */
    static String stateOf(RoomMaker maker) {
        StringBuilder text = new StringBuilder("pressure " + maker.pressure() + " counts");
        for (int what = 0; what <= 7; what++) {
            text.append(' ').append(maker.count(what));
        }
        text.append(" outputs");
        for (int k = 0; k < 16; k++) {
            text.append(' ').append(maker.output(k));
        }
        text.append(" spans and places");
        for (int v = 0; v < 16; v++) {
            text.append(' ').append(maker.span(v, false)).append("..").append(maker.span(v, true));
            text.append('@').append(maker.place(v));
        }
        int valuesAndCells = maker.count(1) == NONE ? 0 : 32;
        text.append(" values");
        for (int v = 0; v < valuesAndCells; v++) {
            text.append(' ').append(maker.value(v));
        }
        return text + INPUTS + maker.count(8);
    }

    static String withoutInputs(String state) {
        return state.substring(0, state.indexOf(INPUTS));
    }

    static long bit(boolean answer) {
        return answer ? 1 : 0;
    }
}
