/** Long runs of calls, ordinary and wrong ones mixed, against PlainModel, which counts in longs alone. */
public final class ModelTest {
    private static final int RUNS = 3000;
    private static final int CALLS = 512;
    private static final int[] EDGES = {
        0, 1, -1, 2, 3, 4, 5, 16, 127, 128, -128, -129, 255, 256, 32767, 32768, -32768, 65535, 65536,
        7999999, 8000000, 8000001, -8000000, -8000001, 16777215, 16777217, 16777219, -16777217,
        2147483583, 2147483584, Integer.MAX_VALUE, Integer.MIN_VALUE, Integer.MIN_VALUE + 1,
    };
    private static final int[] SIZES = {0, 1, 2, 3, 5, 39, 40, 41, 199, 200, 201, -1, 1000000000, Integer.MIN_VALUE};

    private long seed;
    private final KeeperRolls program = new KeeperRolls();
    private final PlainModel model = new PlainModel();

    private ModelTest(long seed) {
        this.seed = seed;
    }

    public static void main(String[] args) {
        for (int run = 1; run <= RUNS; run++) {
            if (!new ModelTest(run).holds(run)) {
                System.exit(1);
            }
        }
    }

    private boolean holds(int run) {
        // told() counts as a call too.
        for (int call = 0; call < CALLS / 2; call++) {
            int kind = below(PlainModel.ACTS);
            int[] a = arguments(kind);
            int got = answer(kind, a);
            int want = model.answer(kind, a);
            int told = program.told();
            if (got != want || told != model.told) {
                System.out.println("run " + run + ", call " + call + ", act " + kind + java.util.Arrays.toString(a)
                    + " answered " + got + " and told " + told + ", due are " + want + " and " + model.told);
                return false;
            }
        }
        return true;
    }

    private int[] arguments(int kind) {
        switch (kind) {
            case PlainModel.HANG: return new int[] {roll(), size()};
            case PlainModel.TEAR: return new int[] {below(3) == 0 ? roll() : -below(2) - 1};
            case PlainModel.READ: return new int[] {roll(), cell()};
            case PlainModel.MARK:
            case PlainModel.MORE:
            case PlainModel.TIMES: return new int[] {roll(), cell(), value()};
            case PlainModel.SIZE: return new int[] {roll()};
            case PlainModel.POUR: return new int[] {roll(), cell(), roll(), cell()};
            case PlainModel.BOARD: return new int[] {size(), size()};
            case PlainModel.PEG: return new int[] {cell(), cell(), value()};
            case PlainModel.LOOK: return new int[] {cell(), cell()};
            case PlainModel.TAKE:
            case PlainModel.WIDTH: return new int[] {cell()};
            default: return new int[] {below(6) - 2};
        }
    }

    private int answer(int kind, int[] a) {
        switch (kind) {
            case PlainModel.HANG: return program.hang(a[0], a[1]);
            case PlainModel.TEAR: return program.tear(a[0]);
            case PlainModel.READ: return program.read(a[0], a[1]);
            case PlainModel.MARK: return program.mark(a[0], a[1], a[2]);
            case PlainModel.MORE: return program.more(a[0], a[1], a[2]);
            case PlainModel.TIMES: return program.times(a[0], a[1], a[2]);
            case PlainModel.SIZE: return program.size(a[0]);
            case PlainModel.POUR: return program.pour(a[0], a[1], a[2], a[3]);
            case PlainModel.BOARD: return program.board(a[0], a[1]);
            case PlainModel.PEG: return program.peg(a[0], a[1], a[2]);
            case PlainModel.LOOK: return program.look(a[0], a[1]);
            case PlainModel.TAKE: return program.take(a[0]);
            case PlainModel.WIDTH: return program.width(a[0]);
            default: return program.count(a[0]);
        }
    }

    private int roll() {
        return below(12) == 0 ? edge() : below(5);
    }

    private int cell() {
        return below(12) == 0 ? edge() : below(4);
    }

    private int size() {
        return below(3) == 0 ? SIZES[below(SIZES.length)] : below(6);
    }

    private int value() {
        switch (below(3)) {
            case 0: return edge();
            case 1: return below(41) - 20;
            default: return next() >> below(32);
        }
    }

    private int edge() {
        return EDGES[below(EDGES.length)];
    }

    private int below(int bound) {
        return Math.floorMod(next(), bound);
    }

    /** A fixed sequence, so that every run of the tests makes the same calls. */
    private int next() {
        seed = seed * 6364136223846793005L + 1442695040888963407L;
        return (int) (seed >> 32);
    }
}
