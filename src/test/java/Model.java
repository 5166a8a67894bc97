import java.util.ArrayDeque;
import java.util.ArrayList;
import java.util.Arrays;
import java.util.Comparator;
import java.util.List;

/** The document's words followed one by one, without regard to speed; it shares nothing with the program. */
final class Model {
    record Instruction(int sort, int x, int y, int z) {
        List<Integer> read() {
            return switch (sort) {
                case 1, 2, 3 -> List.of(y, z);
                case 4, 6 -> List.of(y);
                case 7, 10, 11 -> List.of(x, y);
                case 8 -> List.of(x);
                default -> List.of();
            };
        }

        boolean sets(int v) {
            return sort <= 6 && x == v;
        }

        boolean goesAstray(int length) {
            return sort == 9 && x > length || sort >= 10 && z > length;
        }
    }

    private final List<Instruction> program = new ArrayList<>();
    private final ArrayDeque<Integer> inputs = new ArrayDeque<>();
    private boolean built;

    private boolean[][] living;
    private final int[] first = new int[16];
    private final int[] last = new int[16];
    private final int[] place = new int[16];

    private int[] places;
    private int[] cells;
    private List<Integer> outputs;
    private int next;
    private final int[] counts = new int[6];

    /** The first form of the program, which runs beside the code. */
    private int[] values;
    private int[] valueCells;
    private List<Integer> valueOutputs;

    int put(int sort, int x, int y, int z) {
        if (!allowed(sort, x, y, z)) {
            throw new IllegalArgumentException();
        }
        built = false;
        if (program.size() == 64) {
            return -1;
        }
        program.add(new Instruction(sort, x, y, z));
        return program.size();
    }

    private static boolean allowed(int sort, int x, int y, int z) {
        boolean vx = x >= 0 && x < 16;
        boolean vy = y >= 0 && y < 16;
        boolean vz = z >= 0 && z < 16;
        return switch (sort) {
            case 0 -> vx && z == 0;
            case 1, 2, 3 -> vx && vy && vz;
            case 4, 6, 7 -> vx && vy && z == 0;
            case 5, 8 -> vx && y == 0 && z == 0;
            case 9 -> x >= 0 && x <= 64 && y == 0 && z == 0;
            case 10, 11 -> vx && vy && z >= 0 && z <= 64;
            default -> false;
        };
    }

    int clear() {
        int before = program.size();
        program.clear();
        inputs.clear();
        built = false;
        return before;
    }

    int give(int v) {
        if (inputs.size() == 32) {
            return -1;
        }
        inputs.add(v);
        return inputs.size();
    }

    int build(int r) {
        if (r < 1 || r > 8) {
            throw new IllegalArgumentException();
        }
        for (Instruction instruction : program) {
            if (instruction.goesAstray(program.size())) {
                throw new IllegalStateException();
            }
        }
        findSpans();
        int stacked = makeRoom(r);
        begin();
        built = true;
        return stacked;
    }

    private void findSpans() {
        living = new boolean[16][2 * program.size()];
        for (int v = 0; v < 16; v++) {
            first[v] = -1;
            last[v] = -1;
            for (int point = 0; point < 2 * program.size(); point++) {
                living[v][point] = searchRead(v, point, new boolean[2 * program.size()]);
                if (living[v][point] || point % 2 == 1 && program.get(point / 2).sets(v)) {
                    first[v] = first[v] < 0 ? point : first[v];
                    last[v] = point;
                }
            }
        }
    }

    private boolean searchRead(int v, int point, boolean[] seen) {
        if (point >= 2 * program.size() || seen[point]) {
            return false;
        }
        seen[point] = true;
        Instruction instruction = program.get(point / 2);
        if (point % 2 == 0) {
            return instruction.read().contains(v)
                || !instruction.sets(v) && searchRead(v, point + 1, seen);
        }
        if (instruction.sort() == 9) {
            return searchRead(v, 2 * instruction.x(), seen);
        }
        return searchRead(v, point + 1, seen)
            || instruction.sort() >= 10 && searchRead(v, 2 * instruction.z(), seen);
    }

    private int makeRoom(int r) {
        Arrays.fill(place, -1);
        List<Integer> order = new ArrayList<>();
        for (int v = 0; v < 16; v++) {
            if (first[v] >= 0) {
                order.add(v);
            }
        }
        order.sort(Comparator.comparingInt((Integer v) -> first[v]).thenComparingInt(v -> v));
        Comparator<Integer> byEnd = Comparator.comparingInt((Integer v) -> last[v]).thenComparingInt(v -> v);
        List<Integer> holding = new ArrayList<>();
        int stacked = 0;
        for (int v : order) {
            holding.removeIf(other -> last[other] < first[v]);
            holding.add(v);
            if (holding.size() <= r) {
                place[v] = leastFree(holding);
                continue;
            }
            Integer longest = holding.stream().max(byEnd).orElseThrow();
            place[v] = place[longest];
            place[longest] = 16 + stacked++;
            holding.remove(longest);
        }
        return stacked;
    }

    private int leastFree(List<Integer> holding) {
        int register = 0;
        while (isHeld(register, holding)) {
            register++;
        }
        return register;
    }

    private boolean isHeld(int register, List<Integer> holding) {
        return holding.stream().anyMatch(v -> place[v] == register);
    }

    private void begin() {
        places = new int[32];
        cells = new int[16];
        outputs = new ArrayList<>();
        values = new int[16];
        valueCells = new int[16];
        valueOutputs = new ArrayList<>();
        next = 0;
        Arrays.fill(counts, 0);
    }

    private static void needValue(int v) {
        if (v < 0 || v > 15) {
            throw new IndexOutOfBoundsException();
        }
    }

    int span(int v, boolean end) {
        needValue(v);
        return !built ? -1 : end ? last[v] : first[v];
    }

    boolean lives(int v, int point) {
        needValue(v);
        if (built && (point < 0 || point >= 2 * program.size())) {
            throw new IndexOutOfBoundsException();
        }
        return built && living[v][point];
    }

    int place(int v) {
        needValue(v);
        return built ? place[v] : -1;
    }

    int pressure() {
        int most = built ? 0 : -1;
        for (int point = 0; built && point < 2 * program.size(); point++) {
            int spanning = 0;
            for (int v = 0; v < 16; v++) {
                if (first[v] >= 0 && first[v] <= point && last[v] >= point) {
                    spanning++;
                }
            }
            most = Math.max(most, spanning);
        }
        return most;
    }

    int run(int n) {
        if (!built || next == program.size()) {
            throw new IllegalStateException();
        }
        if (n < 1 || n > 5000) {
            throw new IllegalArgumentException();
        }
        int steps = 0;
        while (steps < n && next < program.size()) {
            step(program.get(next));
            steps++;
        }
        counts[2] += steps;
        return steps;
    }

    private void step(Instruction i) {
        int input = i.sort() == 5 && !inputs.isEmpty() ? inputs.remove() : 0;
        int valuesNext = stepValues(i, input);
        int codeNext = stepCode(i, input);
        if (valuesNext != codeNext) {
            throw new AssertionError("the two forms part ways behind instruction " + next);
        }
        next = codeNext;
    }

    private int stepValues(Instruction i, int input) {
        switch (i.sort()) {
            case 0 -> values[i.x()] = i.y();
            case 1 -> values[i.x()] = values[i.y()] + values[i.z()];
            case 2 -> values[i.x()] = values[i.y()] - values[i.z()];
            case 3 -> values[i.x()] = values[i.y()] * values[i.z()];
            case 4 -> values[i.x()] = values[i.y()];
            case 5 -> values[i.x()] = input;
            case 6 -> values[i.x()] = valueCells[values[i.y()] & 15];
            case 7 -> valueCells[values[i.x()] & 15] = values[i.y()];
            case 8 -> valueOutputs.add(0, values[i.x()]);
            default -> {
                return target(i, i.sort() < 10 ? 0 : values[i.x()], i.sort() < 10 ? 0 : values[i.y()]);
            }
        }
        return next + 1;
    }

    private int target(Instruction i, int left, int right) {
        return switch (i.sort()) {
            case 9 -> i.x();
            case 10 -> left < right ? i.z() : next + 1;
            default -> left == right ? i.z() : next + 1;
        };
    }

    private int stepCode(Instruction i, int input) {
        if (i.sort() == 4 && place[i.x()] < 16 && place[i.x()] == place[i.y()]) {
            counts[5]++;
            return next + 1;
        }
        List<Integer> read = new ArrayList<>();
        for (int v : i.read()) {
            read.add(places[place[v]]);
            counts[3] += place[v] / 16;
        }
        switch (i.sort()) {
            case 0 -> set(i, i.y());
            case 1 -> set(i, read.get(0) + read.get(1));
            case 2 -> set(i, read.get(0) - read.get(1));
            case 3 -> set(i, read.get(0) * read.get(1));
            case 4 -> set(i, read.get(0));
            case 5 -> set(i, input);
            case 6 -> set(i, cells[read.get(0) & 15]);
            case 7 -> cells[read.get(0) & 15] = read.get(1);
            case 8 -> outputs.add(0, read.get(0));
            default -> {
                return target(i, i.sort() < 10 ? 0 : read.get(0), i.sort() < 10 ? 0 : read.get(1));
            }
        }
        return next + 1;
    }

    private void set(Instruction i, int number) {
        places[place[i.x()]] = number;
        counts[4] += place[i.x()] / 16;
    }

    /** Whether the code has done all that the values' own form did. */
    boolean formsAgree() {
        if (!built) {
            return true;
        }
        for (int v = 0; v < 16; v++) {
            boolean needed = next < program.size() && living[v][2 * next];
            if (needed && values[v] != places[place[v]]) {
                return false;
            }
        }
        return outputs.equals(valueOutputs) && Arrays.equals(cells, valueCells);
    }

    boolean restart() {
        if (built) {
            begin();
        }
        return built;
    }

    int value(int v) {
        if (!built) {
            throw new IllegalStateException();
        }
        if (v < 0 || v > 31) {
            throw new IndexOutOfBoundsException();
        }
        return v >= 16 ? cells[v - 16] : place[v] < 0 ? 0 : places[place[v]];
    }

    int output(int k) {
        return built && k >= 0 && k < 16 && k < outputs.size() ? outputs.get(k) : 0;
    }

    int count(int what) {
        if (what == 0) {
            return program.size();
        }
        if (what == 8) {
            return inputs.size();
        }
        if (!built || what < 1 || what > 8) {
            return -1;
        }
        return switch (what) {
            case 1 -> next;
            case 6 -> outputs.size();
            case 7 -> next == program.size() ? 1 : 0;
            default -> counts[what];
        };
    }
}
