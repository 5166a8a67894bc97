import java.util.Arrays;

/**
 * Brings programs in up to sixteen values into few registers and a stack, and runs them there.
 * What each call answers is said by the numbered promises of DOC.md.
 */
public final class RoomMaker {
    public static final int NONE = -1;

    private static final int VALUES = 16;
    private static final int CELLS = 16;
    private static final int MOST_INSTRUCTIONS = 64;
    private static final int MOST_INPUTS = 32;
    private static final int MOST_REGISTERS = 8;
    private static final int MOST_STEPS = 5000;
    private static final int KEPT_OUTPUTS = 16;

    /** Places below this one are registers, those from it on are stack places. */
    private static final int STACK = 16;
    private static final int PLACES = STACK + VALUES;

    private static final int SET = 0;
    private static final int ADD = 1;
    private static final int SUB = 2;
    private static final int MUL = 3;
    private static final int COPY = 4;
    private static final int READ = 5;
    private static final int LOAD = 6;
    private static final int STORE = 7;
    private static final int WRITE = 8;
    private static final int GO = 9;
    private static final int LESS = 10;
    private static final int SAME = 11;
    private static final int SORTS = 12;

    /** A sort of the code alone: a copy within one register. */
    private static final int LEFT_OUT = 12;

    private static final int IS_NOTHING = 0;
    private static final int IS_NUMBER = 1;
    private static final int IS_SET = 2;
    private static final int IS_READ = 3;
    private static final int IS_TARGET = 4;

    /** What x, y and z are, sort by sort. */
    private static final int[] X_ROLES = {
        IS_SET, IS_SET, IS_SET, IS_SET, IS_SET, IS_SET, IS_SET,
        IS_READ, IS_READ, IS_TARGET, IS_READ, IS_READ};
    private static final int[] Y_ROLES = {
        IS_NUMBER, IS_READ, IS_READ, IS_READ, IS_READ, IS_NOTHING, IS_READ,
        IS_READ, IS_NOTHING, IS_NOTHING, IS_READ, IS_READ};
    private static final int[] Z_ROLES = {
        IS_NOTHING, IS_READ, IS_READ, IS_READ, IS_NOTHING, IS_NOTHING, IS_NOTHING,
        IS_NOTHING, IS_NOTHING, IS_NOTHING, IS_TARGET, IS_TARGET};

    private final Program program;
    private final Inputs inputs;
    private final Spans spans;
    private final Rooms rooms;
    private final Machine machine;
    private boolean built;

    public RoomMaker() {
        program = new Program();
        inputs = new Inputs();
        spans = new Spans();
        rooms = new Rooms();
        machine = new Machine();
    }

    public int put(int sort, int x, int y, int z) throws IllegalArgumentException {
        if (!Program.allows(sort, x, y, z)) {
            throw new IllegalArgumentException("no such instruction");
        }
        built = false;
        return program.append(sort, x, y, z);
    }

    public int clear() {
        int before = program.length;
        program.length = 0;
        inputs.drop();
        built = false;
        return before;
    }

    public int give(int v) {
        return inputs.append(v);
    }

    public int build(int r) throws IllegalArgumentException, IllegalStateException {
        if (r < 1 || r > MOST_REGISTERS) {
            throw new IllegalArgumentException("no such number of registers");
        }
        if (program.leadsAstray()) {
            throw new IllegalStateException("an instruction goes to where nothing is");
        }
        spans.find(program);
        rooms.share(spans, r);
        machine.take(program, rooms);
        machine.begin();
        built = true;
        return rooms.stacked;
    }

    public int span(int v, boolean last) throws IndexOutOfBoundsException {
        if (!isValue(v)) {
            throw new IndexOutOfBoundsException("no such value");
        }
        if (!built) {
            return NONE;
        }
        return last ? spans.lastOf[v] : spans.firstOf[v];
    }

    public boolean lives(int v, int point) throws IndexOutOfBoundsException {
        if (!isValue(v)) {
            throw new IndexOutOfBoundsException("no such value");
        }
        if (!built) {
            return false;
        }
        if (point < 0 || point >= spans.points) {
            throw new IndexOutOfBoundsException("no such point");
        }
        return (spans.livingAt[point] >> v & 1) == 1;
    }

    public int place(int v) throws IndexOutOfBoundsException {
        if (!isValue(v)) {
            throw new IndexOutOfBoundsException("no such value");
        }
        return built ? rooms.placeOf[v] : NONE;
    }

    public int pressure() {
        return built ? spans.mostAtOnce() : NONE;
    }

    public int run(int n) throws IllegalStateException, IllegalArgumentException {
        if (!built || machine.isAtEnd()) {
            throw new IllegalStateException("nothing is left to run");
        }
        if (n < 1 || n > MOST_STEPS) {
            throw new IllegalArgumentException("no such number of instructions");
        }
        return machine.advance(n, inputs);
    }

    public boolean restart() {
        if (built) {
            machine.begin();
        }
        return built;
    }

    public int value(int v) throws IllegalStateException, IndexOutOfBoundsException {
        if (!built) {
            throw new IllegalStateException("nothing is built");
        }
        if (v < 0 || v >= VALUES + CELLS) {
            throw new IndexOutOfBoundsException("no such value or cell");
        }
        return v < VALUES ? machine.contentOf(rooms.placeOf[v]) : machine.cells[v - VALUES];
    }

    public int output(int k) {
        // Outputs are a part of the run, so they are gone with what was built.
        return built ? machine.written(k) : 0;
    }

    public int count(int what) {
        if (what == 0) {
            return program.length;
        }
        if (what == 8) {
            return inputs.waiting;
        }
        return built ? machine.tally(what) : NONE;
    }

    private static boolean isValue(int v) {
        return v >= 0 && v < VALUES;
    }

    /** The instructions as they were put. */
    private static final class Program {
        private final int[] sorts = new int[MOST_INSTRUCTIONS];
        private final int[] xs = new int[MOST_INSTRUCTIONS];
        private final int[] ys = new int[MOST_INSTRUCTIONS];
        private final int[] zs = new int[MOST_INSTRUCTIONS];
        private int length;

        private static boolean allows(int sort, int x, int y, int z) {
            return sort >= 0 && sort < SORTS
                && fits(X_ROLES[sort], x) && fits(Y_ROLES[sort], y) && fits(Z_ROLES[sort], z);
        }

        private static boolean fits(int role, int number) {
            switch (role) {
                case IS_SET:
                case IS_READ:
                    return isValue(number);
                case IS_TARGET:
                    return number >= 0 && number <= MOST_INSTRUCTIONS;
                case IS_NUMBER:
                    return true;
                default:
                    return number == 0;
            }
        }

        private int append(int sort, int x, int y, int z) {
            if (length >= MOST_INSTRUCTIONS) {
                return NONE;
            }
            sorts[length] = sort;
            xs[length] = x;
            ys[length] = y;
            zs[length] = z;
            length++;
            return length;
        }

        /** The values that instruction i reads, a bit each. */
        private int readBy(int i) {
            int sort = sorts[i];
            return bitIf(X_ROLES[sort] == IS_READ, xs[i])
                | bitIf(Y_ROLES[sort] == IS_READ, ys[i])
                | bitIf(Z_ROLES[sort] == IS_READ, zs[i]);
        }

        /** The value that instruction i sets, as a bit; 0 when it sets none. */
        private int setBy(int i) {
            return bitIf(X_ROLES[sorts[i]] == IS_SET, xs[i]);
        }

        private static int bitIf(boolean wanted, int v) {
            return wanted ? 1 << v : 0;
        }

        /** Where instruction i may go to; NONE when it only goes on. */
        private int targetOf(int i) {
            if (X_ROLES[sorts[i]] == IS_TARGET) {
                return xs[i];
            }
            return Z_ROLES[sorts[i]] == IS_TARGET ? zs[i] : NONE;
        }

        private boolean goesOn(int i) {
            return sorts[i] != GO;
        }

        private boolean leadsAstray() {
            for (int i = 0; i < length; i++) {
                if (targetOf(i) > length) {
                    return true;
                }
            }
            return false;
        }
    }

    /** The inputs that wait, in a ring. */
    private static final class Inputs {
        private final int[] ring = new int[MOST_INPUTS];
        private int head;
        private int waiting;

        private int append(int v) {
            if (waiting >= MOST_INPUTS) {
                return NONE;
            }
            ring[(head + waiting) % MOST_INPUTS] = v;
            waiting++;
            return waiting;
        }

        private int next() {
            if (waiting == 0) {
                return 0;
            }
            int v = ring[head];
            head = (head + 1) % MOST_INPUTS;
            waiting--;
            return v;
        }

        private void drop() {
            waiting = 0;
        }
    }

    /** Where values live, and the span of each. */
    private static final class Spans {
        private final int[] livingAt = new int[2 * MOST_INSTRUCTIONS];
        private final int[] firstOf = new int[VALUES];
        private final int[] lastOf = new int[VALUES];
        private int points;

        private void find(Program program) {
            points = 2 * program.length;
            Arrays.fill(livingAt, 0);
            boolean changed = true;
            // Each pass carries every value at least one instruction further back along its
            // shortest way, and no shortest way is longer than the program; the points behind
            // instructions that go back may need one pass more.
            for (int pass = 0; pass <= program.length && changed; pass++) {
                changed = passBack(program);
            }
            measure(program);
        }

        private boolean passBack(Program program) {
            boolean changed = false;
            for (int i = program.length - 1; i >= 0; i--) {
                int behind = livingBehind(program, i);
                int ahead = program.readBy(i) | behind & ~program.setBy(i);
                // What lives behind comes from what lives ahead elsewhere, so that tells of changes.
                changed = changed || livingAt[2 * i] != ahead;
                livingAt[2 * i] = ahead;
                livingAt[2 * i + 1] = behind;
            }
            return changed;
        }

        private int livingBehind(Program program, int i) {
            int living = program.goesOn(i) ? livingAhead(i + 1) : 0;
            return living | livingAhead(program.targetOf(i));
        }

        private int livingAhead(int i) {
            return i >= 0 && 2 * i < points ? livingAt[2 * i] : 0;
        }

        private void measure(Program program) {
            Arrays.fill(firstOf, NONE);
            Arrays.fill(lastOf, NONE);
            for (int point = 0; point < points; point++) {
                int there = livingAt[point];
                if (point % 2 == 1) {
                    there |= program.setBy(point / 2);
                }
                stretch(there, point);
            }
        }

        private void stretch(int there, int point) {
            for (int v = 0; v < VALUES; v++) {
                if ((there >> v & 1) == 1) {
                    firstOf[v] = firstOf[v] == NONE ? point : firstOf[v];
                    lastOf[v] = point;
                }
            }
        }

        private int mostAtOnce() {
            int most = 0;
            for (int point = 0; point < points; point++) {
                most = Math.max(most, spanning(point));
            }
            return most;
        }

        private int spanning(int point) {
            int number = 0;
            for (int v = 0; v < VALUES; v++) {
                // A value without a span has NONE as its last point, which no point is up to.
                if (firstOf[v] <= point && point <= lastOf[v]) {
                    number++;
                }
            }
            return number;
        }

        /** Whether the span of a ends behind that of b; of two that end at once, the greater number. */
        private boolean outlasts(int a, int b) {
            return lastOf[a] > lastOf[b] || lastOf[a] == lastOf[b] && a > b;
        }
    }

    /** Which value gets which place. */
    private static final class Rooms {
        private final int[] placeOf = new int[VALUES];
        private final int[] holders = new int[MOST_REGISTERS];
        private int registers;
        private int stacked;

        private void share(Spans spans, int r) {
            registers = r;
            stacked = 0;
            Arrays.fill(placeOf, NONE);
            Arrays.fill(holders, NONE);
            for (int point = 0; point < spans.points; point++) {
                for (int v = 0; v < VALUES; v++) {
                    if (spans.firstOf[v] == point) {
                        release(spans, point);
                        settle(spans, v);
                    }
                }
            }
        }

        private void release(Spans spans, int point) {
            for (int i = 0; i < registers; i++) {
                if (holders[i] != NONE && spans.lastOf[holders[i]] < point) {
                    holders[i] = NONE;
                }
            }
        }

        private void settle(Spans spans, int v) {
            int register = leastFree();
            if (register == NONE) {
                int longest = longestOf(spans, v);
                register = placeOf[longest];
                placeOf[longest] = STACK + stacked;
                stacked++;
            }
            // Without a register it is v itself that has just gone to the stack.
            if (register != NONE) {
                placeOf[v] = register;
                holders[register] = v;
            }
        }

        private int leastFree() {
            for (int i = 0; i < registers; i++) {
                if (holders[i] == NONE) {
                    return i;
                }
            }
            return NONE;
        }

        /** Of v and the values that hold all the registers, the one to go to the stack. */
        private int longestOf(Spans spans, int v) {
            int longest = v;
            for (int i = 0; i < registers; i++) {
                if (spans.outlasts(holders[i], longest)) {
                    longest = holders[i];
                }
            }
            return longest;
        }
    }

    /** The code, whose operands are places, and its run. */
    private static final class Machine {
        private final int[] sorts = new int[MOST_INSTRUCTIONS];
        private final int[] xs = new int[MOST_INSTRUCTIONS];
        private final int[] ys = new int[MOST_INSTRUCTIONS];
        private final int[] zs = new int[MOST_INSTRUCTIONS];
        private int length;
        private final int[] contents = new int[PLACES];
        private final int[] cells = new int[CELLS];
        private final int[] outputs = new int[KEPT_OUTPUTS];
        private int next;
        private int done;
        private int loads;
        private int stores;
        private int leftOut;
        private int outputsMade;

        private void take(Program program, Rooms rooms) {
            length = program.length;
            for (int i = 0; i < length; i++) {
                int sort = program.sorts[i];
                xs[i] = operand(X_ROLES[sort], program.xs[i], rooms);
                ys[i] = operand(Y_ROLES[sort], program.ys[i], rooms);
                zs[i] = operand(Z_ROLES[sort], program.zs[i], rooms);
                boolean idle = sort == COPY && xs[i] == ys[i] && xs[i] < STACK;
                sorts[i] = idle ? LEFT_OUT : sort;
            }
        }

        private static int operand(int role, int number, Rooms rooms) {
            return role == IS_SET || role == IS_READ ? rooms.placeOf[number] : number;
        }

        private void begin() {
            Arrays.fill(contents, 0);
            Arrays.fill(cells, 0);
            next = 0;
            done = 0;
            loads = 0;
            stores = 0;
            leftOut = 0;
            outputsMade = 0;
        }

        private boolean isAtEnd() {
            return next >= length;
        }

        private int advance(int n, Inputs inputs) {
            int steps = 0;
            while (steps < n && !isAtEnd()) {
                step(inputs);
                steps++;
            }
            done += steps;
            return steps;
        }

        private void step(Inputs inputs) {
            int i = next;
            int x = xs[i];
            int y = ys[i];
            next = i + 1;
            switch (sorts[i]) {
                case SET:
                    assign(x, y);
                    break;
                case COPY:
                    assign(x, fetch(y));
                    break;
                case READ:
                    assign(x, inputs.next());
                    break;
                case LOAD:
                    assign(x, cells[fetch(y) & CELLS - 1]);
                    break;
                case STORE:
                    cells[fetch(x) & CELLS - 1] = fetch(y);
                    break;
                case WRITE:
                    write(fetch(x));
                    break;
                case LEFT_OUT:
                    leftOut++;
                    break;
                case ADD:
                case SUB:
                case MUL:
                    reckon(sorts[i], x, y, zs[i]);
                    break;
                default:
                    jump(sorts[i], x, y, zs[i]);
                    break;
            }
        }

        private void reckon(int sort, int x, int y, int z) {
            int left = fetch(y);
            int right = fetch(z);
            switch (sort) {
                case ADD:
                    assign(x, left + right);
                    break;
                case SUB:
                    assign(x, left - right);
                    break;
                default:
                    assign(x, left * right);
                    break;
            }
        }

        private void jump(int sort, int x, int y, int z) {
            if (sort == GO) {
                next = x;
                return;
            }
            int left = fetch(x);
            int right = fetch(y);
            if (sort == LESS && left < right || sort == SAME && left == right) {
                next = z;
            }
        }

        private int fetch(int place) {
            if (place >= STACK) {
                loads++;
            }
            return contentOf(place);
        }

        private void assign(int place, int number) {
            if (place >= STACK) {
                stores++;
            }
            if (place >= 0 && place < PLACES) {
                contents[place] = number;
            }
        }

        private int contentOf(int place) {
            return place >= 0 && place < PLACES ? contents[place] : 0;
        }

        private void write(int number) {
            // A mask and no remainder, so that no count, however far it goes round, leads outside.
            outputs[outputsMade & KEPT_OUTPUTS - 1] = number;
            outputsMade++;
        }

        private int written(int k) {
            if (k < 0 || k >= KEPT_OUTPUTS || k >= outputsMade) {
                return 0;
            }
            return outputs[outputsMade - 1 - k & KEPT_OUTPUTS - 1];
        }

        private int tally(int what) {
            switch (what) {
                case 1:
                    return next;
                case 2:
                    return done;
                case 3:
                    return loads;
                case 4:
                    return stores;
                case 5:
                    return leftOut;
                case 6:
                    return outputsMade;
                case 7:
                    return isAtEnd() ? 1 : 0;
                default:
                    return NONE;
            }
        }
    }
}
