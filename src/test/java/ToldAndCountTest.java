/** Promises 15 and 16: told and count. */
public final class ToldAndCountTest {
    private static final Check CHECK = new Check();

    public static void main(String[] args) {
        promise15ToldIsZeroAtFirst();
        promise15OnlyWhatTellsChangesIt();
        promise15ToldOutlivesItsRollAndBoard();
        promise16CountOfRolls();
        promise16CountOfRows();
        promise16CountOfAnotherWhat();
        CHECK.done();
    }

    private static void promise15ToldIsZeroAtFirst() {
        KeeperRolls x = new KeeperRolls();
        CHECK.due("told() at first", x.told(), 0);
        x.hang(0, 3);
        x.board(2, 2);
        x.take(0);
        CHECK.due("told() after acts that tell nothing", x.told(), 0);
    }

    private static void promise15OnlyWhatTellsChangesIt() {
        KeeperRolls x = new KeeperRolls();
        x.hang(0, 3);
        x.hang(1, 5);
        x.mark(0, 0, 77);
        CHECK.due("told() after mark", x.told(), 77);
        CHECK.due("told() again", x.told(), 77);
        x.hang(2, 4);
        x.tear(2);
        x.board(1, 6);
        x.take(0);
        x.count(0);
        x.count(1);
        x.count(9);
        CHECK.due("told() after acts that tell nothing", x.told(), 77);
        x.size(1);
        CHECK.due("told() after size", x.told(), 5);
        x.read(0, 0);
        CHECK.due("told() after read", x.told(), 77);
        x.more(0, 1, 8);
        CHECK.due("told() after more", x.told(), 8);
        x.times(0, 1, 3);
        CHECK.due("told() after times", x.told(), 24);
        x.pour(0, 0, 1, 0);
        CHECK.due("told() after pour", x.told(), 77);
        x.board(1, 6);
        x.width(0);
        CHECK.due("told() after width", x.told(), 6);
        x.peg(0, 0, -9);
        CHECK.due("told() after peg", x.told(), -9);
        x.look(0, 1);
        CHECK.due("told() after look", x.told(), 0);
    }

    private static void promise15ToldOutlivesItsRollAndBoard() {
        KeeperRolls x = new KeeperRolls();
        x.hang(4, 1);
        x.mark(4, 0, 12);
        x.tear(4);
        CHECK.due("told() after tear", x.told(), 12);
        x.board(1, 1);
        x.peg(0, 0, 13);
        x.take(0);
        x.board(0, 0);
        CHECK.due("told() after a new board", x.told(), 13);
    }

    private static void promise16CountOfRolls() {
        KeeperRolls x = new KeeperRolls();
        for (int roll = 0; roll < 5; roll++) {
            CHECK.due("count(0) ahead of roll " + roll, x.count(0), roll);
            x.hang(roll, roll);
            x.hang(roll, roll + 1);
        }
        CHECK.due("count(0) of all", x.count(0), 5);
        x.tear(2);
        x.tear(2);
        CHECK.due("count(0) after a tear", x.count(0), 4);
        CHECK.due("count(1) without a board", x.count(1), -1);
        CHECK.due("count(2) without a board", x.count(2), 0);
    }

    private static void promise16CountOfRows() {
        KeeperRolls x = new KeeperRolls();
        x.board(40, 1);
        CHECK.due("count(1)", x.count(1), 40);
        CHECK.due("count(2)", x.count(2), 0);
        for (int row = 39; row >= 0; row--) {
            x.take(row);
            CHECK.due("count(2) after take(" + row + ")", x.count(2), 40 - row);
            CHECK.due("count(1) after take(" + row + ")", x.count(1), 40);
        }
        x.board(3, 1);
        CHECK.due("count(1) anew", x.count(1), 3);
        CHECK.due("count(2) anew", x.count(2), 0);
        CHECK.due("count(0) has no rows", x.count(0), 0);
    }

    private static void promise16CountOfAnotherWhat() {
        KeeperRolls x = new KeeperRolls();
        x.hang(0, 1);
        x.board(2, 2);
        for (int what : new int[] {-1, 3, 4, Integer.MIN_VALUE, Integer.MAX_VALUE}) {
            CHECK.due("count(" + what + ")", x.count(what), -1);
        }
    }
}
