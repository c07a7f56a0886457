/** Promises 10 to 14: board, peg, look, take, width. */
public final class BoardTest {
    private static final int LEAST = Integer.MIN_VALUE;
    private static final int GREATEST = Integer.MAX_VALUE;
    private static final Check CHECK = new Check();

    public static void main(String[] args) {
        promise10BoardMakesCellsOfZero();
        promise10BoardReplacesTheElderOne();
        promise10BoardMayBeEmpty();
        promise10BoardRefuses();
        promise11PegTellsWhatItPuts();
        promise11And12RefuseAlike();
        promise12LookTells();
        promise13TakeTakesOneRow();
        promise13TakeRefuses();
        promise14WidthTells();
        promise14WidthRefuses();
        CHECK.done();
    }

    private static KeeperRolls boarded(int rows, int cells) {
        KeeperRolls x = new KeeperRolls();
        CHECK.due("board(" + rows + ", " + cells + ")", x.board(rows, cells), 0);
        return x;
    }

    private static void allCellsAre(KeeperRolls x, int rows, int cells, int want) {
        for (int row = 0; row < rows; row++) {
            for (int cell = 0; cell < cells; cell++) {
                CHECK.tells("look(" + row + ", " + cell + ")", x, x.look(row, cell), want);
            }
        }
    }

    private static void promise10BoardMakesCellsOfZero() {
        for (int row = 0; row < 40; row++) {
            // An object for each row: the document promises 512 calls of one.
            KeeperRolls x = boarded(40, 40);
            for (int cell = 0; cell < 40; cell++) {
                CHECK.tells("look(" + row + ", " + cell + ")", x, x.look(row, cell), 0);
            }
            CHECK.due("look(" + row + ", 40)", x.look(row, 40), 3);
            CHECK.due("look(40, " + row + ")", x.look(40, row), 3);
        }
    }

    private static void promise10BoardReplacesTheElderOne() {
        KeeperRolls x = boarded(3, 4);
        for (int row = 0; row < 3; row++) {
            for (int cell = 0; cell < 4; cell++) {
                x.peg(row, cell, 7);
            }
        }
        x.take(1);
        CHECK.due("board smaller", x.board(2, 2), 0);
        CHECK.due("told() after board", x.told(), 7);
        CHECK.due("none is TAKEN of a new board", x.count(2), 0);
        allCellsAre(x, 2, 2, 0);
        CHECK.due("look(2, 0)", x.look(2, 0), 3);
        CHECK.due("look(0, 2)", x.look(0, 2), 3);
        x.take(0);
        CHECK.due("board greater", x.board(4, 5), 0);
        allCellsAre(x, 4, 5, 0);
        CHECK.due("count(1)", x.count(1), 4);
    }

    private static void promise10BoardMayBeEmpty() {
        KeeperRolls x = boarded(0, 3);
        CHECK.due("count(1) of no rows", x.count(1), 0);
        CHECK.due("width(0) of no rows", x.width(0), 3);
        CHECK.due("board(2, 0)", x.board(2, 0), 0);
        CHECK.tells("width(1)", x, x.width(1), 0);
        CHECK.due("look(1, 0) of no cells", x.look(1, 0), 3);
        CHECK.due("board(0, 0)", x.board(0, 0), 0);
        CHECK.due("count(1)", x.count(1), 0);
    }

    private static void boardRefused(KeeperRolls x, int rows, int cells, int want) {
        CHECK.refused("board(" + rows + ", " + cells + ")", x, 5, x.board(rows, cells), want);
    }

    private static void promise10BoardRefuses() {
        KeeperRolls x = boarded(2, 3);
        x.take(0);
        x.peg(1, 2, 5);
        boardRefused(x, 41, 1, 5);
        boardRefused(x, 1, 41, 5);
        boardRefused(x, 41, -1, 5);
        boardRefused(x, -1, 41, 5);
        boardRefused(x, GREATEST, LEAST, 5);
        boardRefused(x, LEAST, GREATEST, 5);
        boardRefused(x, -1, 40, 4);
        boardRefused(x, 40, -1, 4);
        boardRefused(x, LEAST, LEAST, 4);
        CHECK.due("count(1) after refusals", x.count(1), 2);
        CHECK.due("count(2) after refusals", x.count(2), 1);
        CHECK.tells("look after refusals", x, x.look(1, 2), 5);
        CHECK.tells("width after refusals", x, x.width(1), 3);
        x = new KeeperRolls();
        x.board(-1, 2);
        x.board(2, 41);
        CHECK.due("a refused board does not stand", x.count(1), -1);
    }

    private static void promise11PegTellsWhatItPuts() {
        KeeperRolls x = boarded(40, 40);
        for (int v : new int[] {1, -1, 70000, LEAST, GREATEST, 0}) {
            CHECK.tells("peg(39, 38, " + v + ")", x, x.peg(39, 38, v), v);
            CHECK.tells("look(39, 38)", x, x.look(39, 38), v);
        }
        x.peg(1, 0, 3);
        CHECK.tells("look beside", x, x.look(0, 39), 0);
        CHECK.tells("look below", x, x.look(2, 0), 0);
        CHECK.tells("look across", x, x.look(0, 1), 0);
    }

    private static void pegAndLookRefused(KeeperRolls x, int row, int cell, int before, int want) {
        String at = "(" + row + ", " + cell + ")";
        CHECK.refused("peg" + at, x, before, x.peg(row, cell, 9), want);
        CHECK.refused("look" + at, x, before, x.look(row, cell), want);
    }

    private static void promise11And12RefuseAlike() {
        KeeperRolls x = new KeeperRolls();
        pegAndLookRefused(x, 0, 0, 0, 2);
        pegAndLookRefused(x, -1, -1, 0, 2);
        x.board(2, 3);
        x.peg(1, 2, 5);
        for (int row : new int[] {-1, 2, LEAST, GREATEST}) {
            pegAndLookRefused(x, row, 0, 5, 3);
        }
        for (int cell : new int[] {-1, 3, LEAST, GREATEST}) {
            pegAndLookRefused(x, 1, cell, 5, 3);
        }
        x.take(0);
        pegAndLookRefused(x, 0, 0, 5, 2);
        pegAndLookRefused(x, 0, 3, 5, 2);
        pegAndLookRefused(x, 0, -1, 5, 2);
        pegAndLookRefused(x, 2, 3, 5, 3);
        CHECK.tells("look(1, 0) after refusals", x, x.look(1, 0), 0);
        x.board(3, 4);
        allCellsAre(x, 3, 4, 0);
    }

    private static void promise12LookTells() {
        KeeperRolls x = boarded(3, 5);
        for (int row = 0; row < 3; row++) {
            for (int cell = 0; cell < 5; cell++) {
                x.peg(row, cell, 100 * row + cell);
            }
        }
        for (int row = 0; row < 3; row++) {
            for (int cell = 0; cell < 5; cell++) {
                CHECK.tells("look(" + row + ", " + cell + ")", x, x.look(row, cell), 100 * row + cell);
            }
        }
    }

    private static void promise13TakeTakesOneRow() {
        KeeperRolls x = boarded(3, 2);
        x.peg(0, 0, 6);
        x.peg(2, 1, 8);
        CHECK.tells("take(1)", x, x.take(1), 8);
        CHECK.due("look of a TAKEN row", x.look(1, 0), 2);
        CHECK.due("count(2)", x.count(2), 1);
        CHECK.tells("take(1) again", x, x.take(1), 8);
        CHECK.due("count(2) again", x.count(2), 1);
        CHECK.due("count(1) has TAKEN rows too", x.count(1), 3);
        CHECK.tells("look of the row ahead", x, x.look(0, 0), 6);
        CHECK.tells("look of the row behind", x, x.look(2, 1), 8);
        CHECK.due("take(2)", x.take(2), 0);
        CHECK.due("take(0)", x.take(0), 0);
        CHECK.due("count(2) of all", x.count(2), 3);
    }

    private static void promise13TakeRefuses() {
        KeeperRolls x = new KeeperRolls();
        CHECK.due("take without a board", x.take(0), 2);
        CHECK.due("take(-1) without a board", x.take(-1), 2);
        x.board(2, 2);
        x.peg(0, 0, 4);
        for (int row : new int[] {-1, 2, LEAST, GREATEST}) {
            CHECK.refused("take(" + row + ")", x, 4, x.take(row), 3);
        }
        CHECK.due("count(2) after refusals", x.count(2), 0);
        x.board(3, 2);
        CHECK.due("a refused row is not TAKEN later", x.count(2), 0);
    }

    private static void promise14WidthTells() {
        KeeperRolls x = boarded(3, 40);
        CHECK.tells("width(0)", x, x.width(0), 40);
        x.board(40, 3);
        CHECK.tells("width(39)", x, x.width(39), 3);
        x.take(0);
        CHECK.tells("width beside a TAKEN row", x, x.width(1), 3);
    }

    private static void promise14WidthRefuses() {
        KeeperRolls x = new KeeperRolls();
        CHECK.refused("width without a board", x, 0, x.width(-1), 2);
        x.board(2, 5);
        x.width(0);
        for (int row : new int[] {-1, 2, LEAST, GREATEST}) {
            CHECK.refused("width(" + row + ")", x, 5, x.width(row), 3);
        }
        x.take(1);
        CHECK.refused("width of a TAKEN row", x, 5, x.width(1), 2);
    }
}
