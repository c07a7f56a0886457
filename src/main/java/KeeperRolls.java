/** A lighthouse keeper's five rolls and a board of pegs; every act answers whether it is done, or why not. */
public final class KeeperRolls {
    private static final int DONE = 0;
    private static final int NO_ROLL = 1;
    private static final int NOT_THERE = 2;
    private static final int NO_CELL = 3;
    private static final int BELOW_ZERO = 4;
    private static final int TOO_GREAT = 5;

    private static final int MOST_CELLS = 200;
    private static final int MOST_PEGS = 40;
    private static final int GLASS_PARTS = 16;
    private static final int GLASS_LIMIT = 500000;

    private final Roll[] rolls;
    private final PegBoard pegs;
    private int latest;

    public KeeperRolls() {
        rolls = new Roll[] {new Letters(), new Depths(), new Glass(), new Lamps(), new Notches()};
        pegs = new PegBoard();
        latest = 0;
    }

    public int hang(int roll, int n) {
        if (!isRoll(roll)) {
            return NO_ROLL;
        }
        if (n > MOST_CELLS) {
            return TOO_GREAT;
        }
        if (n < 0) {
            return BELOW_ZERO;
        }
        rolls[roll].unroll(n);
        return DONE;
    }

    public int tear(int roll) {
        int answer = answerOfRoll(roll);
        if (answer == DONE) {
            rolls[roll].hangs = false;
        }
        return answer;
    }

    public int read(int roll, int i) {
        int answer = answerOfCell(roll, i);
        if (answer == DONE) {
            latest = rolls[roll].whole(i);
        }
        return answer;
    }

    public int mark(int roll, int i, int v) {
        int answer = answerOfCell(roll, i);
        if (answer == DONE) {
            rolls[roll].put(i, v);
            latest = rolls[roll].whole(i);
        }
        return answer;
    }

    public int more(int roll, int i, int v) {
        int answer = answerOfCell(roll, i);
        if (answer == DONE) {
            rolls[roll].raise(i, v);
            latest = rolls[roll].whole(i);
        }
        return answer;
    }

    public int times(int roll, int i, int v) {
        int answer = answerOfCell(roll, i);
        if (answer == DONE) {
            rolls[roll].multiply(i, v);
            latest = rolls[roll].whole(i);
        }
        return answer;
    }

    public int size(int roll) {
        int answer = answerOfRoll(roll);
        if (answer == DONE) {
            latest = rolls[roll].length;
        }
        return answer;
    }

    public int pour(int from, int i, int to, int j) {
        // A missing roll on either side is told ahead of all else about the first one.
        if (!isRoll(from) || !isRoll(to)) {
            return NO_ROLL;
        }
        int answer = answerOfCell(from, i);
        if (answer == DONE) {
            answer = answerOfCell(to, j);
        }
        if (answer == DONE) {
            rolls[to].put(j, rolls[from].whole(i));
            latest = rolls[to].whole(j);
        }
        return answer;
    }

    public int board(int rows, int cells) {
        if (rows > MOST_PEGS || cells > MOST_PEGS) {
            return TOO_GREAT;
        }
        if (rows < 0 || cells < 0) {
            return BELOW_ZERO;
        }
        pegs.setUp(rows, cells);
        return DONE;
    }

    public int peg(int row, int cell, int v) {
        int answer = pegs.answerOfPeg(row, cell);
        if (answer == DONE) {
            pegs.values[row][cell] = v;
            latest = v;
        }
        return answer;
    }

    public int look(int row, int cell) {
        int answer = pegs.answerOfPeg(row, cell);
        if (answer == DONE) {
            latest = pegs.values[row][cell];
        }
        return answer;
    }

    public int take(int row) {
        int answer = pegs.answerOfPlace(row);
        if (answer == DONE) {
            pegs.taken[row] = true;
        }
        return answer;
    }

    public int width(int row) {
        int answer = pegs.answerOfRow(row);
        if (answer == DONE) {
            latest = pegs.cells;
        }
        return answer;
    }

    public int told() {
        return latest;
    }

    public int count(int what) {
        switch (what) {
            case 0:
                return hangingRolls();
            case 1:
                return pegs.stands ? pegs.rows : -1;
            case 2:
                return pegs.stands ? pegs.takenRows() : 0;
            default:
                return -1;
        }
    }

    private boolean isRoll(int roll) {
        return roll >= 0 && roll < rolls.length;
    }

    private int answerOfRoll(int roll) {
        if (!isRoll(roll)) {
            return NO_ROLL;
        }
        return rolls[roll].hangs ? DONE : NOT_THERE;
    }

    private int answerOfCell(int roll, int i) {
        int answer = answerOfRoll(roll);
        if (answer != DONE) {
            return answer;
        }
        return i >= 0 && i < rolls[roll].length ? DONE : NO_CELL;
    }

    private int hangingRolls() {
        int hanging = 0;
        for (int roll = 0; roll < rolls.length; roll++) {
            if (rolls[roll].hangs) {
                hanging++;
            }
        }
        return hanging;
    }

    /**
     * One roll. Its row of cells is made once, at the greatest size, and used again by every hanging,
     * so that no call but the constructor makes anything. The callers look at an index before they hand it in.
     */
    private abstract static class Roll {
        boolean hangs;
        int length;

        abstract int whole(int i);

        abstract void put(int i, int v);

        abstract void raise(int i, int v);

        abstract void multiply(int i, int v);

        final void unroll(int n) {
            // Cells of the elder roll are still in the row.
            for (int i = 0; i < n; i++) {
                put(i, 0);
            }
            length = n;
            hangs = true;
        }
    }

    /** A roll whose cells keep the lowest bytes of whole numbers: an int that wraps around has the right ones. */
    private abstract static class Numbers extends Roll {
        final void raise(int i, int v) {
            put(i, whole(i) + v);
        }

        final void multiply(int i, int v) {
            put(i, whole(i) * v);
        }
    }

    private static final class Letters extends Numbers {
        private final char[] cells = new char[MOST_CELLS];

        int whole(int i) {
            return cells[i];
        }

        void put(int i, int v) {
            cells[i] = (char) v;
        }
    }

    private static final class Depths extends Numbers {
        private final short[] cells = new short[MOST_CELLS];

        int whole(int i) {
            return cells[i];
        }

        void put(int i, int v) {
            cells[i] = (short) v;
        }
    }

    private static final class Glass extends Roll {
        private final float[] cells = new float[MOST_CELLS];

        int whole(int i) {
            // The cast itself goes towards 0 and stops at 2147483647.
            return (int) (cells[i] * GLASS_PARTS);
        }

        void put(int i, int v) {
            cells[i] = real(v);
        }

        void raise(int i, int v) {
            cells[i] = within(cells[i] + real(v));
        }

        void multiply(int i, int v) {
            cells[i] = within(cells[i] * (float) v);
        }

        private static float real(int v) {
            // Only the cast rounds: a division by a power of two is exact here.
            return (float) v / GLASS_PARTS;
        }

        private static float within(float x) {
            if (x > GLASS_LIMIT) {
                return GLASS_LIMIT;
            }
            return x < -GLASS_LIMIT ? -GLASS_LIMIT : x;
        }
    }

    private static final class Lamps extends Roll {
        private final boolean[] cells = new boolean[MOST_CELLS];

        int whole(int i) {
            return cells[i] ? 1 : 0;
        }

        void put(int i, int v) {
            cells[i] = v != 0;
        }

        void raise(int i, int v) {
            if ((v & 1) != 0) {
                cells[i] = !cells[i];
            }
        }

        void multiply(int i, int v) {
            if (v == 0) {
                cells[i] = false;
            }
        }
    }

    private static final class Notches extends Numbers {
        private final byte[] cells = new byte[MOST_CELLS];

        int whole(int i) {
            return cells[i];
        }

        void put(int i, int v) {
            cells[i] = (byte) v;
        }
    }

    /** The board. Like a roll's row, its rows are made once and used again by every new board. */
    private static final class PegBoard {
        final int[][] values = new int[MOST_PEGS][MOST_PEGS];
        final boolean[] taken = new boolean[MOST_PEGS];
        boolean stands;
        int rows;
        int cells;

        void setUp(int newRows, int newCells) {
            for (int row = 0; row < newRows; row++) {
                taken[row] = false;
                for (int cell = 0; cell < newCells; cell++) {
                    values[row][cell] = 0;
                }
            }
            rows = newRows;
            cells = newCells;
            stands = true;
        }

        /** Whether the board has such a row, TAKEN or not. */
        int answerOfPlace(int row) {
            if (!stands) {
                return NOT_THERE;
            }
            return row >= 0 && row < rows ? DONE : NO_CELL;
        }

        int answerOfRow(int row) {
            int answer = answerOfPlace(row);
            if (answer != DONE) {
                return answer;
            }
            return taken[row] ? NOT_THERE : DONE;
        }

        int answerOfPeg(int row, int cell) {
            int answer = answerOfRow(row);
            if (answer != DONE) {
                return answer;
            }
            return cell >= 0 && cell < cells ? DONE : NO_CELL;
        }

        int takenRows() {
            int gone = 0;
            for (int row = 0; row < rows; row++) {
                if (taken[row]) {
                    gone++;
                }
            }
            return gone;
        }
    }
}
