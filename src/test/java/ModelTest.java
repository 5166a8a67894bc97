/** Long runs of calls, drawn by a fixed rule, that the program and the model must answer alike. */
public final class ModelTest {
    private static final int RUNS = 600;
    private static final int CALLS = 512;

    private static final Check CHECK = new Check();

    private final RoomMaker maker = new RoomMaker();
    private final Model model = new Model();
    private final int run;
    private long seed;
    private int putsToCome;
    private int length;

    private ModelTest(int run) {
        this.run = run;
        this.seed = run * 7919L + 17;
    }

    public static void main(String[] args) {
        for (int run = 0; run < RUNS; run++) {
            new ModelTest(run).play();
        }
        CHECK.end();
    }

    private void play() {
        for (int call = 0; call < CALLS; call++) {
            boolean asDue = putsToCome > 0 ? putNext() : anyCall();
            CHECK.yes("run " + run + ": the forms do the same", model.formsAgree());
            if (!asDue) {
                return;
            }
        }
    }

    private int draw(int bound) {
        seed = seed * 6364136223846793005L + 1442695040888963407L;
        return (int) ((seed >>> 33) % bound);
    }

    private int anyNumber() {
        int[] edges = {0, 1, -1, 2, 5, 15, 16, 17, Integer.MAX_VALUE, Integer.MIN_VALUE, 1 << 30, 46341};
        return draw(3) == 0 ? edges[draw(edges.length)] : draw(1000) - 500;
    }

    private boolean alike(String call, Check.Call due, Check.Call got) {
        return CHECK.same("run " + run + ": " + call, Check.outcome(due), Check.outcome(got));
    }

    private boolean put(int sort, int x, int y, int z) {
        return alike("put(" + sort + ", " + x + ", " + y + ", " + z + ")",
            () -> model.put(sort, x, y, z), () -> maker.put(sort, x, y, z));
    }

    /** An instruction of a program whose length is settled ahead, so that most can be built. */
    private boolean putNext() {
        putsToCome--;
        int values = 1 + run % 16;
        int sort = draw(12);
        int a = draw(values);
        int b = draw(values);
        int c = draw(values);
        int target = draw(25) == 0 ? draw(65) : draw(length + 1);
        return switch (sort) {
            case 0 -> put(sort, a, anyNumber(), 0);
            case 1, 2, 3 -> put(sort, a, b, c);
            case 4, 6, 7 -> put(sort, a, b, 0);
            case 5, 8 -> put(sort, a, 0, 0);
            case 9 -> draw(3) > 0 ? put(4, a, b, 0) : put(sort, target, 0, 0);
            default -> put(sort, a, b, target);
        };
    }

    private boolean beginProgram() {
        length = draw(4) == 0 ? draw(65) : draw(20);
        putsToCome = length + draw(10) / 9;
        return alike("clear()", model::clear, maker::clear);
    }

    private boolean anyCall() {
        int a = draw(20) - 2;
        int n = draw(4) == 0 ? draw(5003) - 1 : draw(30);
        int point = draw(8) == 0 ? draw(140) - 5 : draw(2 * length + 1);
        boolean last = draw(2) == 0;
        int r = draw(15) == 0 ? draw(12) - 2 : 1 + draw(8);
        int number = anyNumber();
        return switch (draw(60)) {
            case 0 -> beginProgram();
            case 1 -> put(draw(14) - 1, draw(18) - 1, draw(18) - 1, draw(67) - 1);
            case 2, 3, 4, 5, 6 -> alike("build(" + r + ")", () -> model.build(r), () -> maker.build(r));
            case 7, 8, 9, 10 -> alike("give", () -> model.give(number), () -> maker.give(number));
            case 11 -> alike("restart()", () -> model.restart() ? 1 : 0, () -> maker.restart() ? 1 : 0);
            case 12 -> alike("pressure()", model::pressure, maker::pressure);
            case 13, 14, 15, 16, 17, 18 ->
                alike("span(" + a + ", " + last + ")", () -> model.span(a, last), () -> maker.span(a, last));
            case 19, 20, 21, 22, 23, 24 ->
                alike("place(" + a + ")", () -> model.place(a), () -> maker.place(a));
            case 25, 26, 27, 28, 29, 30 -> alike("lives(" + a + ", " + point + ")",
                () -> model.lives(a, point) ? 1 : 0, () -> maker.lives(a, point) ? 1 : 0);
            case 31, 32, 33, 34, 35, 36, 37, 38, 39 ->
                alike("run(" + n + ")", () -> model.run(n), () -> maker.run(n));
            case 40, 41, 42, 43, 44, 45 -> sameValue(draw(36) - 2);
            case 46, 47, 48, 49, 50 ->
                alike("output(" + a + ")", () -> model.output(a), () -> maker.output(a));
            default -> sameCount(draw(12) - 1);
        };
    }

    private boolean sameValue(int v) {
        return alike("value(" + v + ")", () -> model.value(v), () -> maker.value(v));
    }

    private boolean sameCount(int what) {
        return alike("count(" + what + ")", () -> model.count(what), () -> maker.count(what));
    }
}
