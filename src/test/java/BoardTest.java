/** Promises 10 to 14: board, peg, look, take, width. */
public final class BoardTest {
    private static final int LEAST = Integer.MIN_VALUE;
    private static final int GREATEST = Integer.MAX_VALUE;
    private static final Check CHECK = new Check();

    public static void main(String[] args) {
        boardHasSoManyRowsOfSoManyCells();
        boardMakesEachCellZero();
        boardOfNoRows();
        boardOfRowsOfNoCells();
        boardOfTheMostRowsAndCells();
        boardRefusesMoreThanTheMost();
        boardRefusesBelowZero();
        boardTakesThePlaceOfTheElderOne();
        boardLeavesNoCellOfTheElderOne();
        boardLeavesNoRowTaken();
        refusedBoardLeavesTheElderOne();
        pegPutsAndTells();
        pegOfAnyInt();
        pegOfOneCellAlone();
        pegRefuses();
        lookTells();
        lookRefuses();
        takeTakesARowAway();
        takeIsDoneTooIfItWas();
        takeOfEveryRow();
        takeOfARowOfNoCells();
        takeRefuses();
        widthTells();
        widthRefuses();
        CHECK.done();
    }

    private static KeeperRolls boarded(int rows, int cells) {
        KeeperRolls x = new KeeperRolls();
        CHECK.due("board(" + rows + ", " + cells + ")", x.board(rows, cells), 0);
        return x;
    }

    private static void rowIs(KeeperRolls x, int row, int cells, int want) {
        for (int cell = 0; cell < cells; cell++) {
            CHECK.tells("look(" + row + ", " + cell + ")", x, x.look(row, cell), want);
        }
    }

    private static void pegRow(KeeperRolls x, int row, int cells, int v) {
        for (int cell = 0; cell < cells; cell++) {
            x.peg(row, cell, v);
        }
    }

    private static void boardHasSoManyRowsOfSoManyCells() {
        CHECK.sentence("Promise 10: so many rows of so many cells");
        for (int[] size : new int[][] {{1, 1}, {2, 5}, {5, 2}, {39, 1}, {1, 39}}) {
            KeeperRolls x = boarded(size[0], size[1]);
            CHECK.due("count(1)", x.count(1), size[0]);
            CHECK.due("look of the last cell", x.look(size[0] - 1, size[1] - 1), 0);
            CHECK.due("look beyond the last row", x.look(size[0], 0), 3);
            CHECK.due("look beyond the last cell", x.look(0, size[1]), 3);
        }
    }

    private static void boardMakesEachCellZero() {
        CHECK.sentence("Promise 10: each 0");
        for (int row = 0; row < 40; row++) {
            // An object for each row: the document promises 512 calls of one.
            rowIs(boarded(40, 40), row, 40, 0);
        }
    }

    private static void boardOfNoRows() {
        CHECK.sentence("Promise 10: so many rows, and there are 0");
        for (int cells : new int[] {0, 3, 40}) {
            KeeperRolls x = boarded(0, cells);
            CHECK.due("count(1)", x.count(1), 0);
            CHECK.due("count(2)", x.count(2), 0);
            CHECK.due("width(0)", x.width(0), 3);
            CHECK.due("take(0)", x.take(0), 3);
            CHECK.due("look(0, 0)", x.look(0, 0), 3);
            CHECK.due("peg(0, 0, 1)", x.peg(0, 0, 1), 3);
        }
    }

    private static void boardOfRowsOfNoCells() {
        CHECK.sentence("Promise 10: rows of so many cells, and there are 0");
        for (int rows : new int[] {1, 3, 40}) {
            KeeperRolls x = boarded(rows, 0);
            x.hang(0, 9);
            x.size(0);
            CHECK.due("count(1)", x.count(1), rows);
            CHECK.due("look of cell 0", x.look(rows - 1, 0), 3);
            CHECK.due("peg of cell 0", x.peg(rows - 1, 0, 1), 3);
            CHECK.tells("width of the last row", x, x.width(rows - 1), 0);
            CHECK.due("width beyond the last row", x.width(rows), 3);
        }
    }

    private static void boardOfTheMostRowsAndCells() {
        CHECK.sentence("Promise 10: 40 rows of 40 cells are none above 40");
        KeeperRolls x = boarded(40, 40);
        CHECK.due("count(1)", x.count(1), 40);
        CHECK.tells("width(39)", x, x.width(39), 40);
        CHECK.tells("peg(39, 39, 6)", x, x.peg(39, 39, 6), 6);
        CHECK.due("look(40, 39)", x.look(40, 39), 3);
        CHECK.due("look(39, 40)", x.look(39, 40), 3);
        CHECK.due("board(40, 0)", x.board(40, 0), 0);
        CHECK.due("board(0, 40)", x.board(0, 40), 0);
    }

    private static void boardRefusesMoreThanTheMost() {
        CHECK.sentence("Promise 10: (5: one of both is above 40)");
        for (int many : new int[] {41, 42, 65536, GREATEST}) {
            KeeperRolls x = new KeeperRolls();
            CHECK.due("board(" + many + ", 1)", x.board(many, 1), 5);
            CHECK.due("board(1, " + many + ")", x.board(1, many), 5);
            CHECK.due("board(" + many + ", 0)", x.board(many, 0), 5);
            CHECK.due("board(0, " + many + ")", x.board(0, many), 5);
            CHECK.due("board(" + many + ", " + many + ")", x.board(many, many), 5);
            CHECK.due("count(1)", x.count(1), -1);
        }
    }

    private static void boardRefusesBelowZero() {
        CHECK.sentence("Terms: 4 a size is below 0 (board)");
        for (int few : new int[] {-1, -40, LEAST}) {
            KeeperRolls x = new KeeperRolls();
            CHECK.due("board(" + few + ", 1)", x.board(few, 1), 4);
            CHECK.due("board(1, " + few + ")", x.board(1, few), 4);
            CHECK.due("board(" + few + ", 40)", x.board(few, 40), 4);
            CHECK.due("board(40, " + few + ")", x.board(40, few), 4);
            CHECK.due("board(0, " + few + ")", x.board(0, few), 4);
            CHECK.due("board(" + few + ", " + few + ")", x.board(few, few), 4);
            CHECK.due("count(1)", x.count(1), -1);
        }
    }

    private static void boardTakesThePlaceOfTheElderOne() {
        CHECK.sentence("Promise 10: A new board in the place of the elder one");
        KeeperRolls x = boarded(3, 4);
        x.peg(0, 0, 7);
        CHECK.tells("board(2, 5)", x, x.board(2, 5), 7);
        CHECK.due("count(1)", x.count(1), 2);
        CHECK.due("look(2, 0)", x.look(2, 0), 3);
        CHECK.tells("width(1)", x, x.width(1), 5);
        CHECK.due("board(6, 1)", x.board(6, 1), 0);
        CHECK.due("count(1)", x.count(1), 6);
        CHECK.tells("width(5)", x, x.width(5), 1);
        CHECK.due("look(0, 1)", x.look(0, 1), 3);
    }

    private static void boardLeavesNoCellOfTheElderOne() {
        CHECK.sentence("Promise 10: in the place of the elder one, each 0");
        for (int row = 0; row < 40; row++) {
            KeeperRolls x = boarded(40, 40);
            pegRow(x, row, 40, 7);
            x.board(40, 40);
            rowIs(x, row, 40, 0);
        }
        for (int[] between : new int[][] {{0, 0}, {1, 3}, {3, 1}, {4, 0}}) {
            KeeperRolls x = boarded(4, 4);
            for (int row = 0; row < 4; row++) {
                pegRow(x, row, 4, 7);
            }
            x.board(between[0], between[1]);
            x.board(4, 4);
            for (int row = 0; row < 4; row++) {
                rowIs(x, row, 4, 0);
            }
        }
    }

    private static void boardLeavesNoRowTaken() {
        CHECK.sentence("Promise 10: A new board, none of whose rows was TAKEN");
        for (int[] between : new int[][] {{4, 2}, {0, 0}, {1, 2}}) {
            KeeperRolls x = boarded(4, 2);
            for (int row = 0; row < 4; row++) {
                x.take(row);
            }
            x.board(between[0], between[1]);
            CHECK.due("count(2)", x.count(2), 0);
            x.board(4, 2);
            CHECK.due("count(2)", x.count(2), 0);
            for (int row = 0; row < 4; row++) {
                CHECK.tells("width(" + row + ")", x, x.width(row), 2);
            }
        }
    }

    private static void refusedBoardLeavesTheElderOne() {
        CHECK.sentence("Terms: What is refused changes nothing (board)");
        for (int[] size : new int[][] {{41, 1}, {1, 41}, {-1, 1}, {1, -1}, {41, -1}, {LEAST, GREATEST}}) {
            KeeperRolls x = boarded(2, 3);
            x.take(0);
            x.peg(1, 2, 5);
            x.board(size[0], size[1]);
            CHECK.due("told()", x.told(), 5);
            CHECK.due("count(1)", x.count(1), 2);
            CHECK.due("count(2)", x.count(2), 1);
            CHECK.tells("width(1)", x, x.width(1), 3);
            CHECK.tells("look(1, 2)", x, x.look(1, 2), 5);
        }
    }

    private static void pegPutsAndTells() {
        CHECK.sentence("Promise 11: A cell of the board is v, which is told");
        for (int[] at : new int[][] {{0, 0}, {0, 39}, {39, 0}, {39, 39}, {12, 34}}) {
            KeeperRolls x = boarded(40, 40);
            CHECK.tells("peg(" + at[0] + ", " + at[1] + ", 9)", x, x.peg(at[0], at[1], 9), 9);
            x.width(0);
            CHECK.tells("look(" + at[0] + ", " + at[1] + ")", x, x.look(at[0], at[1]), 9);
        }
    }

    private static void pegOfAnyInt() {
        CHECK.sentence("Terms: rows of cells, ints");
        KeeperRolls x = boarded(1, 1);
        for (int v : new int[] {1, -1, 128, 32768, 65536, 16777217, LEAST, GREATEST, 0}) {
            CHECK.tells("peg(0, 0, " + v + ")", x, x.peg(0, 0, v), v);
            x.width(0);
            CHECK.tells("look(0, 0)", x, x.look(0, 0), v);
        }
    }

    private static void pegOfOneCellAlone() {
        CHECK.sentence("Promise 11: A cell of the board, and no other");
        KeeperRolls x = boarded(5, 5);
        x.peg(2, 3, 9);
        for (int row = 0; row < 5; row++) {
            for (int cell = 0; cell < 5; cell++) {
                CHECK.tells("look(" + row + ", " + cell + ")", x, x.look(row, cell), row == 2 && cell == 3 ? 9 : 0);
            }
        }
    }

    private static void pegRefuses() {
        CHECK.sentence("Terms: 2, 3 (peg)");
        KeeperRolls x = new KeeperRolls();
        CHECK.refused("peg(0, 0, 9) without a board", x, 0, x.peg(0, 0, 9), 2);
        x.board(2, 3);
        x.peg(1, 2, 5);
        for (int row : new int[] {-1, 2, 39, 40, LEAST, GREATEST}) {
            CHECK.refused("peg(" + row + ", 0, 9)", x, 5, x.peg(row, 0, 9), 3);
        }
        for (int cell : new int[] {-1, 3, 39, 40, LEAST, GREATEST}) {
            CHECK.refused("peg(1, " + cell + ", 9)", x, 5, x.peg(1, cell, 9), 3);
        }
        x.take(1);
        CHECK.refused("peg(1, 0, 9) of a TAKEN row", x, 5, x.peg(1, 0, 9), 2);
        rowIs(x, 0, 3, 0);
    }

    private static void lookTells() {
        CHECK.sentence("Promise 12: A cell of the board is told");
        KeeperRolls x = boarded(3, 5);
        for (int row = 0; row < 3; row++) {
            for (int cell = 0; cell < 5; cell++) {
                x.peg(row, cell, 100 * row + cell);
            }
        }
        for (int round = 0; round < 2; round++) {
            for (int row = 0; row < 3; row++) {
                for (int cell = 0; cell < 5; cell++) {
                    CHECK.tells("look(" + row + ", " + cell + ")", x, x.look(row, cell), 100 * row + cell);
                }
            }
        }
    }

    private static void lookRefuses() {
        CHECK.sentence("Terms: 2, 3 (look)");
        KeeperRolls x = new KeeperRolls();
        CHECK.refused("look(0, 0) without a board", x, 0, x.look(0, 0), 2);
        x.board(2, 3);
        x.peg(1, 2, 5);
        for (int row : new int[] {-1, 2, 39, 40, LEAST, GREATEST}) {
            CHECK.refused("look(" + row + ", 0)", x, 5, x.look(row, 0), 3);
        }
        for (int cell : new int[] {-1, 3, 39, 40, LEAST, GREATEST}) {
            CHECK.refused("look(1, " + cell + ")", x, 5, x.look(1, cell), 3);
        }
        x.take(1);
        CHECK.refused("look(1, 0) of a TAKEN row", x, 5, x.look(1, 0), 2);
    }

    private static void takeTakesARowAway() {
        CHECK.sentence("Promise 13: A row of the board is TAKEN away");
        for (int taken = 0; taken < 3; taken++) {
            KeeperRolls x = boarded(3, 2);
            for (int row = 0; row < 3; row++) {
                x.peg(row, 1, 6 + row);
            }
            CHECK.tells("take(" + taken + ")", x, x.take(taken), 8);
            CHECK.due("count(1)", x.count(1), 3);
            CHECK.due("count(2)", x.count(2), 1);
            CHECK.due("peg of it", x.peg(taken, 1, 9), 2);
            CHECK.due("look of it", x.look(taken, 1), 2);
            CHECK.due("width of it", x.width(taken), 2);
            for (int row = 0; row < 3; row++) {
                if (row != taken) {
                    CHECK.tells("look(" + row + ", 1)", x, x.look(row, 1), 6 + row);
                }
            }
        }
    }

    private static void takeIsDoneTooIfItWas() {
        CHECK.sentence("Promise 13: (done, too, if it was)");
        KeeperRolls x = boarded(2, 2);
        x.peg(1, 1, 4);
        for (int round = 0; round < 3; round++) {
            CHECK.tells("take(0)", x, x.take(0), 4);
            CHECK.due("count(2)", x.count(2), 1);
            CHECK.due("look(0, 0)", x.look(0, 0), 2);
        }
    }

    private static void takeOfEveryRow() {
        CHECK.sentence("Promise 13: A row is TAKEN away, until none is left");
        KeeperRolls x = boarded(40, 1);
        for (int row = 0; row < 40; row++) {
            CHECK.due("take(" + row + ")", x.take(row), 0);
            CHECK.due("width(" + row + ")", x.width(row), 2);
        }
        CHECK.due("take(40)", x.take(40), 3);
        CHECK.due("count(1)", x.count(1), 40);
        CHECK.due("count(2)", x.count(2), 40);
    }

    private static void takeOfARowOfNoCells() {
        CHECK.sentence("Promise 13: A row is TAKEN away, one of 0 cells");
        KeeperRolls x = boarded(2, 0);
        CHECK.due("take(1)", x.take(1), 0);
        CHECK.due("count(2)", x.count(2), 1);
        CHECK.due("width(1)", x.width(1), 2);
    }

    private static void takeRefuses() {
        CHECK.sentence("Terms: 2, 3 (take)");
        KeeperRolls x = new KeeperRolls();
        CHECK.due("take(0) without a board", x.take(0), 2);
        x.board(2, 2);
        x.peg(0, 0, 4);
        for (int row : new int[] {-1, 2, 39, 40, LEAST, GREATEST}) {
            CHECK.refused("take(" + row + ")", x, 4, x.take(row), 3);
        }
        CHECK.due("count(2)", x.count(2), 0);
    }

    private static void widthTells() {
        CHECK.sentence("Promise 14: How many cells a row of the board has is told");
        for (int cells : new int[] {0, 1, 7, 39, 40}) {
            KeeperRolls x = boarded(3, cells);
            x.hang(0, 9);
            for (int row = 0; row < 3; row++) {
                x.size(0);
                CHECK.tells("width(" + row + ") of " + cells, x, x.width(row), cells);
            }
        }
    }

    private static void widthRefuses() {
        CHECK.sentence("Terms: 2, 3 (width)");
        KeeperRolls x = new KeeperRolls();
        CHECK.refused("width(0) without a board", x, 0, x.width(0), 2);
        x.board(2, 5);
        x.width(0);
        for (int row : new int[] {-1, 2, 39, 40, LEAST, GREATEST}) {
            CHECK.refused("width(" + row + ")", x, 5, x.width(row), 3);
        }
        x.take(1);
        CHECK.refused("width(1) of a TAKEN row", x, 5, x.width(1), 2);
        CHECK.tells("width(0) beside it", x, x.width(0), 5);
    }
}
