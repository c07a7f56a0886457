/** Promises 15 and 16: told and count. */
public final class ToldAndCountTest {
    private static final Check CHECK = new Check();

    public static void main(String[] args) {
        toldIsZeroAtFirst();
        toldIsZeroUntilSomethingIsTold();
        toldIsTheLatest();
        toldStaysWhenNothingIsTold();
        toldStaysWhenActsAreRefused();
        toldOutlivesItsRollAndBoard();
        countOfRolls();
        countOfRollsOfNoCells();
        countOfRowsWithoutABoard();
        countOfRows();
        countOfTakenRowsWithoutABoard();
        countOfTakenRows();
        countOfAnotherWhat();
        CHECK.done();
    }

    private static void toldIsZeroAtFirst() {
        CHECK.sentence("Promise 15: 0 at first");
        CHECK.due("told()", new KeeperRolls().told(), 0);
    }

    private static void toldIsZeroUntilSomethingIsTold() {
        CHECK.sentence("Promise 15: 0 at first, and as long as nothing was told");
        KeeperRolls x = new KeeperRolls();
        x.hang(0, 3);
        x.board(2, 2);
        x.take(0);
        x.read(0, 3);
        x.size(1);
        x.look(0, 0);
        x.count(0);
        x.tear(0);
        CHECK.due("told()", x.told(), 0);
    }

    private static void toldIsTheLatest() {
        CHECK.sentence("Promise 15: What was told latest");
        KeeperRolls x = new KeeperRolls();
        x.hang(0, 3);
        x.hang(1, 5);
        x.board(1, 6);
        CHECK.tells("mark(0, 0, 77)", x, x.mark(0, 0, 77), 77);
        CHECK.due("told() again", x.told(), 77);
        CHECK.tells("size(1)", x, x.size(1), 5);
        CHECK.tells("read(0, 0)", x, x.read(0, 0), 77);
        CHECK.tells("more(0, 1, 8)", x, x.more(0, 1, 8), 8);
        CHECK.tells("times(0, 1, 3)", x, x.times(0, 1, 3), 24);
        CHECK.tells("pour(0, 0, 1, 0)", x, x.pour(0, 0, 1, 0), 77);
        CHECK.tells("width(0)", x, x.width(0), 6);
        CHECK.tells("peg(0, 0, -9)", x, x.peg(0, 0, -9), -9);
        CHECK.tells("look(0, 1)", x, x.look(0, 1), 0);
    }

    private static KeeperRolls toldSeventySeven() {
        KeeperRolls x = new KeeperRolls();
        x.hang(0, 3);
        x.board(2, 2);
        x.mark(0, 0, 77);
        return x;
    }

    private static void toldStaysWhenNothingIsTold() {
        CHECK.sentence("Promise 15: What was told latest (hang, tear, board, take and count tell nothing)");
        KeeperRolls x = toldSeventySeven();
        CHECK.tells("hang(2, 4)", x, x.hang(2, 4), 77);
        CHECK.tells("tear(2)", x, x.tear(2), 77);
        CHECK.tells("take(0)", x, x.take(0), 77);
        CHECK.tells("board(1, 6)", x, x.board(1, 6), 77);
        for (int what = -1; what < 4; what++) {
            x.count(what);
            CHECK.due("told() after count(" + what + ")", x.told(), 77);
        }
    }

    private static void toldStaysWhenActsAreRefused() {
        CHECK.sentence("Promise 15: What was told latest (what is refused tells nothing)");
        KeeperRolls x = toldSeventySeven();
        CHECK.refused("read(5, 0)", x, 77, x.read(5, 0), 1);
        CHECK.refused("mark(1, 0, 9)", x, 77, x.mark(1, 0, 9), 2);
        CHECK.refused("more(0, 3, 9)", x, 77, x.more(0, 3, 9), 3);
        CHECK.refused("times(0, -1, 9)", x, 77, x.times(0, -1, 9), 3);
        CHECK.refused("size(4)", x, 77, x.size(4), 2);
        CHECK.refused("pour(0, 1, 0, 3)", x, 77, x.pour(0, 1, 0, 3), 3);
        CHECK.refused("hang(0, -1)", x, 77, x.hang(0, -1), 4);
        CHECK.refused("board(41, 1)", x, 77, x.board(41, 1), 5);
        CHECK.refused("peg(2, 0, 9)", x, 77, x.peg(2, 0, 9), 3);
        CHECK.refused("look(0, 2)", x, 77, x.look(0, 2), 3);
        CHECK.refused("width(-1)", x, 77, x.width(-1), 3);
    }

    private static void toldOutlivesItsRollAndBoard() {
        CHECK.sentence("Promise 15: What was told latest, even of what is no more");
        KeeperRolls x = new KeeperRolls();
        x.hang(4, 1);
        x.mark(4, 0, 12);
        x.tear(4);
        CHECK.due("told() after tear", x.told(), 12);
        x.board(1, 1);
        x.peg(0, 0, 13);
        x.take(0);
        x.board(0, 0);
        CHECK.due("told() after a new board", x.told(), 13);
    }

    private static void countOfRolls() {
        CHECK.sentence("Promise 16: 0 how many rolls hang");
        KeeperRolls x = new KeeperRolls();
        for (int roll = 0; roll < 5; roll++) {
            CHECK.due("count(0) ahead of roll " + roll, x.count(0), roll);
            x.hang(roll, 1);
            x.hang(roll, 2);
        }
        CHECK.due("count(0) of all", x.count(0), 5);
        for (int roll = 0; roll < 5; roll++) {
            x.tear(roll);
            x.tear(roll);
            CHECK.due("count(0) after tear(" + roll + ")", x.count(0), 4 - roll);
        }
    }

    private static void countOfRollsOfNoCells() {
        CHECK.sentence("Promise 16: 0 how many rolls hang (of 0 cells)");
        KeeperRolls x = new KeeperRolls();
        for (int roll = 0; roll < 5; roll++) {
            x.hang(roll, 0);
            CHECK.due("count(0)", x.count(0), roll + 1);
        }
    }

    private static void countOfRowsWithoutABoard() {
        CHECK.sentence("Promise 16: 1 how many rows the board has (-1 without one)");
        KeeperRolls x = new KeeperRolls();
        CHECK.due("count(1)", x.count(1), -1);
        x.board(-1, 1);
        x.board(41, 1);
        CHECK.due("count(1) after refused boards", x.count(1), -1);
        x.board(0, 0);
        CHECK.due("count(1) of a board of no rows", x.count(1), 0);
    }

    private static void countOfRows() {
        CHECK.sentence("Promise 16: 1 how many rows the board has");
        KeeperRolls x = new KeeperRolls();
        for (int rows : new int[] {1, 40, 3, 0, 39}) {
            x.board(rows, 2);
            CHECK.due("count(1)", x.count(1), rows);
        }
        x.take(0);
        CHECK.due("count(1), TAKEN rows too", x.count(1), 39);
    }

    private static void countOfTakenRowsWithoutABoard() {
        CHECK.sentence("Promise 16: 2 how many of these were TAKEN (0 without one)");
        KeeperRolls x = new KeeperRolls();
        CHECK.due("count(2)", x.count(2), 0);
        x.take(0);
        CHECK.due("count(2) after a refused take", x.count(2), 0);
    }

    private static void countOfTakenRows() {
        CHECK.sentence("Promise 16: 2 how many of these were TAKEN");
        KeeperRolls x = new KeeperRolls();
        x.board(40, 1);
        for (int row = 39; row >= 0; row--) {
            x.take(row);
            x.take(row);
            CHECK.due("count(2) after take(" + row + ")", x.count(2), 40 - row);
            CHECK.due("count(1) after take(" + row + ")", x.count(1), 40);
        }
        x.board(3, 1);
        CHECK.due("count(2) of a new board", x.count(2), 0);
    }

    private static void countOfAnotherWhat() {
        CHECK.sentence("Promise 16: -1 for another what");
        for (int what : new int[] {-1, 3, 4, 256, Integer.MIN_VALUE, Integer.MAX_VALUE}) {
            KeeperRolls x = new KeeperRolls();
            CHECK.due("count(" + what + ") of a new object", x.count(what), -1);
            x.hang(0, 1);
            x.board(2, 2);
            CHECK.due("count(" + what + ")", x.count(what), -1);
        }
    }
}
