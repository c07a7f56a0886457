import java.util.HashSet;
import java.util.Set;

/** The document once more, written another way: every cell is a long, one of GLASS its sixteenths. */
final class PlainModel {
    static final int HANG = 0;
    static final int TEAR = 1;
    static final int READ = 2;
    static final int MARK = 3;
    static final int MORE = 4;
    static final int TIMES = 5;
    static final int SIZE = 6;
    static final int POUR = 7;
    static final int BOARD = 8;
    static final int PEG = 9;
    static final int LOOK = 10;
    static final int TAKE = 11;
    static final int WIDTH = 12;
    static final int ACTS = 14;

    private static final int GLASS = 2;
    private static final int LAMPS = 3;
    private static final long LIMIT = 16L * 500000;

    int told = 0;
    private final long[][] rolls = new long[5][];
    private int[][] board = null;
    private final Set<Integer> taken = new HashSet<>();

    int answer(int kind, int[] a) {
        switch (kind) {
            case HANG: return hang(a[0], a[1]);
            case TEAR: return tear(a[0]);
            case READ:
            case MARK:
            case MORE:
            case TIMES: return cellAct(kind, a);
            case SIZE: return size(a[0]);
            case POUR: return pour(a[0], a[1], a[2], a[3]);
            case BOARD: return newBoard(a[0], a[1]);
            case PEG:
            case LOOK: return pegAct(kind, a);
            case TAKE: return take(a[0]);
            case WIDTH: return width(a[0]);
            default: return count(a[0]);
        }
    }

    private int hang(int roll, int n) {
        if (noRoll(roll)) {
            return 1;
        }
        if (n < 0 || n > 200) {
            return n < 0 ? 4 : 5;
        }
        rolls[roll] = new long[n];
        return 0;
    }

    private int tear(int roll) {
        if (noRoll(roll) || rolls[roll] == null) {
            return noRoll(roll) ? 1 : 2;
        }
        rolls[roll] = null;
        return 0;
    }

    private int size(int roll) {
        if (noRoll(roll) || rolls[roll] == null) {
            return noRoll(roll) ? 1 : 2;
        }
        told = rolls[roll].length;
        return 0;
    }

    private int cellAct(int kind, int[] a) {
        int roll = a[0];
        if (noRoll(roll)) {
            return 1;
        }
        if (noCell(roll, a[1]) != 0) {
            return noCell(roll, a[1]);
        }
        long cell = rolls[roll][a[1]];
        if (kind == MARK) {
            cell = put(roll, a[2]);
        } else if (kind == MORE) {
            cell = sum(roll, cell, a[2]);
        } else if (kind == TIMES) {
            cell = product(roll, cell, a[2]);
        }
        rolls[roll][a[1]] = cell;
        told = whole(cell);
        return 0;
    }

    private int pour(int from, int i, int to, int j) {
        if (noRoll(from) || noRoll(to)) {
            return 1;
        }
        if (noCell(from, i) != 0) {
            return noCell(from, i);
        }
        if (noCell(to, j) != 0) {
            return noCell(to, j);
        }
        rolls[to][j] = put(to, whole(rolls[from][i]));
        told = whole(rolls[to][j]);
        return 0;
    }

    private int newBoard(int rows, int cells) {
        if (Math.max(rows, cells) > 40) {
            return 5;
        }
        if (Math.min(rows, cells) < 0) {
            return 4;
        }
        board = new int[rows][cells];
        taken.clear();
        return 0;
    }

    private int pegAct(int kind, int[] a) {
        if (board == null || taken.contains(a[0])) {
            return 2;
        }
        if (noRow(a[0]) || a[1] < 0 || a[1] >= board[a[0]].length) {
            return 3;
        }
        if (kind == PEG) {
            board[a[0]][a[1]] = a[2];
        }
        told = board[a[0]][a[1]];
        return 0;
    }

    private int take(int row) {
        if (board == null) {
            return 2;
        }
        if (noRow(row)) {
            return 3;
        }
        taken.add(row);
        return 0;
    }

    private int width(int row) {
        if (board == null || taken.contains(row)) {
            return 2;
        }
        if (noRow(row)) {
            return 3;
        }
        told = board[row].length;
        return 0;
    }

    private int count(int what) {
        if (what == 0) {
            int hanging = 0;
            for (long[] roll : rolls) {
                hanging += roll == null ? 0 : 1;
            }
            return hanging;
        }
        if (what == 1) {
            return board == null ? -1 : board.length;
        }
        return what == 2 ? taken.size() : -1;
    }

    private static boolean noRoll(int roll) {
        return roll < 0 || roll > 4;
    }

    private int noCell(int roll, int i) {
        if (rolls[roll] == null) {
            return 2;
        }
        return i < 0 || i >= rolls[roll].length ? 3 : 0;
    }

    private boolean noRow(int row) {
        return row < 0 || row >= board.length;
    }

    private static int whole(long cell) {
        return (int) Math.min(cell, Integer.MAX_VALUE);
    }

    private static long put(int roll, long v) {
        switch (roll) {
            case GLASS: return real(v);
            case LAMPS: return v == 0 ? 0 : 1;
            default: return lowest(roll, v);
        }
    }

    private static long sum(int roll, long cell, long v) {
        switch (roll) {
            case GLASS: return within(real(cell + real(v)));
            case LAMPS: return Math.floorMod(cell + v, 2L);
            default: return lowest(roll, cell + v);
        }
    }

    private static long product(int roll, long cell, long v) {
        switch (roll) {
            case GLASS: return within(real(cell * real(v)));
            case LAMPS: return v == 0 ? 0 : cell;
            default: return lowest(roll, cell * v);
        }
    }

    private static long lowest(int roll, long v) {
        if (roll == 0) {
            return Math.floorMod(v, 65536L);
        }
        long half = roll == 1 ? 32768 : 128;
        return Math.floorMod(v + half, 2 * half) - half;
    }

    /** The nearest whole number that has at most 24 bits from its first one on; of two the even one. */
    private static long real(long v) {
        long size = Math.abs(v);
        long unit = 1;
        while (size / unit >= 1L << 24) {
            unit *= 2;
        }
        long units = size / unit;
        long twiceRest = 2 * (size % unit);
        if (twiceRest > unit || twiceRest == unit && units % 2 == 1) {
            units++;
        }
        return v < 0 ? -units * unit : units * unit;
    }

    private static long within(long sixteenths) {
        return Math.max(-LIMIT, Math.min(LIMIT, sixteenths));
    }
}
