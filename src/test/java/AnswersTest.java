/** The answers of acts: which one of several is given, and that what is refused changes nothing. */
public final class AnswersTest {
    private static final int LEAST = Integer.MIN_VALUE;
    private static final int GREATEST = Integer.MAX_VALUE;
    private static final int[] WRONG_ROLLS = {-1, 5, LEAST, GREATEST};
    private static final int TOLD = 8;
    private static final Check CHECK = new Check();

    private interface Act {
        int on(KeeperRolls x);
    }

    public static void main(String[] args) {
        noSuchRollIsAheadOfAllElse();
        notHangingIsAheadOfNoSuchCell();
        noBoardIsAheadOfNoSuchRow();
        takenIsAheadOfNoSuchCell();
        tooGreatIsAheadOfBelowZero();
        refusedRollActsChangeNothing();
        refusedPoursChangeNothing();
        refusedBoardActsChangeNothing();
        refusedOnANewObjectChangesNothing();
        CHECK.done();
    }

    private static void noSuchRollIsAheadOfAllElse() {
        CHECK.sentence("Terms: Of several the first one of these: 1 ahead of 3, 4 and 5");
        for (int roll : WRONG_ROLLS) {
            KeeperRolls x = full();
            CHECK.due("hang(" + roll + ", -1)", x.hang(roll, -1), 1);
            CHECK.due("hang(" + roll + ", 201)", x.hang(roll, 201), 1);
            CHECK.due("read(" + roll + ", -1)", x.read(roll, -1), 1);
            CHECK.due("mark(" + roll + ", 200, 1)", x.mark(roll, 200, 1), 1);
            CHECK.due("more(" + roll + ", -1, 1)", x.more(roll, -1, 1), 1);
            CHECK.due("times(" + roll + ", 200, 1)", x.times(roll, 200, 1), 1);
        }
    }

    private static void notHangingIsAheadOfNoSuchCell() {
        CHECK.sentence("Terms: Of several the first one of these: 2 (the roll does not hang) ahead of 3");
        KeeperRolls x = full();
        for (int i : new int[] {-1, 200, LEAST, GREATEST}) {
            CHECK.due("read(4, " + i + ")", x.read(4, i), 2);
            CHECK.due("mark(4, " + i + ", 1)", x.mark(4, i, 1), 2);
            CHECK.due("more(4, " + i + ", 1)", x.more(4, i, 1), 2);
            CHECK.due("times(4, " + i + ", 1)", x.times(4, i, 1), 2);
        }
    }

    private static void noBoardIsAheadOfNoSuchRow() {
        CHECK.sentence("Terms: Of several the first one of these: 2 (there is no board) ahead of 3");
        KeeperRolls x = new KeeperRolls();
        for (int row : new int[] {-1, 40, LEAST, GREATEST}) {
            CHECK.due("peg(" + row + ", 0, 1)", x.peg(row, 0, 1), 2);
            CHECK.due("peg(0, " + row + ", 1)", x.peg(0, row, 1), 2);
            CHECK.due("look(" + row + ", 0)", x.look(row, 0), 2);
            CHECK.due("look(0, " + row + ")", x.look(0, row), 2);
            CHECK.due("take(" + row + ")", x.take(row), 2);
            CHECK.due("width(" + row + ")", x.width(row), 2);
        }
    }

    private static void takenIsAheadOfNoSuchCell() {
        CHECK.sentence("Terms: Of several the first one of these: 2 (the row was TAKEN) ahead of 3");
        KeeperRolls x = full();
        for (int cell : new int[] {-1, 2, LEAST, GREATEST}) {
            CHECK.due("peg(1, " + cell + ", 1)", x.peg(1, cell, 1), 2);
            CHECK.due("look(1, " + cell + ")", x.look(1, cell), 2);
        }
    }

    private static void tooGreatIsAheadOfBelowZero() {
        CHECK.sentence("Terms: but 5 ahead of 4");
        KeeperRolls x = new KeeperRolls();
        CHECK.due("board(41, -1)", x.board(41, -1), 5);
        CHECK.due("board(-1, 41)", x.board(-1, 41), 5);
        CHECK.due("board(greatest, least)", x.board(GREATEST, LEAST), 5);
        CHECK.due("board(least, greatest)", x.board(LEAST, GREATEST), 5);
    }

    private static void refusedRollActsChangeNothing() {
        CHECK.sentence("Terms: What is refused changes nothing (rolls)");
        for (int roll : WRONG_ROLLS) {
            leaves("hang(" + roll + ", 2)", 1, x -> x.hang(roll, 2));
            leaves("tear(" + roll + ")", 1, x -> x.tear(roll));
            leaves("read(" + roll + ", 0)", 1, x -> x.read(roll, 0));
            leaves("mark(" + roll + ", 0, 9)", 1, x -> x.mark(roll, 0, 9));
            leaves("more(" + roll + ", 0, 9)", 1, x -> x.more(roll, 0, 9));
            leaves("times(" + roll + ", 0, 9)", 1, x -> x.times(roll, 0, 9));
            leaves("size(" + roll + ")", 1, x -> x.size(roll));
        }
        leaves("tear(4)", 2, x -> x.tear(4));
        leaves("read(4, 0)", 2, x -> x.read(4, 0));
        leaves("mark(4, 0, 9)", 2, x -> x.mark(4, 0, 9));
        leaves("more(4, 0, 9)", 2, x -> x.more(4, 0, 9));
        leaves("times(4, 0, 9)", 2, x -> x.times(4, 0, 9));
        leaves("size(4)", 2, x -> x.size(4));
        for (int roll = 0; roll < 4; roll++) {
            refusedCellsChangeNothing(roll);
        }
        for (int roll = 0; roll < 5; roll++) {
            refusedSizesChangeNothing(roll);
        }
    }

    private static void refusedCellsChangeNothing(int roll) {
        for (int i : new int[] {-1, 3, 200, LEAST, GREATEST}) {
            String at = "(" + roll + ", " + i;
            leaves("read" + at + ")", 3, x -> x.read(roll, i));
            leaves("mark" + at + ", 9)", 3, x -> x.mark(roll, i, 9));
            leaves("more" + at + ", 9)", 3, x -> x.more(roll, i, 9));
            leaves("times" + at + ", 9)", 3, x -> x.times(roll, i, 9));
        }
    }

    private static void refusedSizesChangeNothing(int roll) {
        leaves("hang(" + roll + ", -1)", 4, x -> x.hang(roll, -1));
        leaves("hang(" + roll + ", least)", 4, x -> x.hang(roll, LEAST));
        leaves("hang(" + roll + ", 201)", 5, x -> x.hang(roll, 201));
        leaves("hang(" + roll + ", greatest)", 5, x -> x.hang(roll, GREATEST));
    }

    private static void refusedPoursChangeNothing() {
        CHECK.sentence("Terms: What is refused changes nothing (pour)");
        for (int roll : WRONG_ROLLS) {
            leaves("pour(" + roll + ", 0, 0, 1)", 1, x -> x.pour(roll, 0, 0, 1));
            leaves("pour(0, 1, " + roll + ", 0)", 1, x -> x.pour(0, 1, roll, 0));
        }
        leaves("pour(4, 0, 0, 1)", 2, x -> x.pour(4, 0, 0, 1));
        leaves("pour(0, 1, 4, 0)", 2, x -> x.pour(0, 1, 4, 0));
        for (int i : new int[] {-1, 3, 200, LEAST, GREATEST}) {
            leaves("pour(0, " + i + ", 1, 0)", 3, x -> x.pour(0, i, 1, 0));
            leaves("pour(0, 1, 1, " + i + ")", 3, x -> x.pour(0, 1, 1, i));
            leaves("pour(0, 1, 0, " + i + ")", 3, x -> x.pour(0, 1, 0, i));
        }
    }

    private static void refusedBoardActsChangeNothing() {
        CHECK.sentence("Terms: What is refused changes nothing (the board)");
        leaves("board(-1, 2)", 4, x -> x.board(-1, 2));
        leaves("board(2, -1)", 4, x -> x.board(2, -1));
        leaves("board(least, least)", 4, x -> x.board(LEAST, LEAST));
        leaves("board(41, 2)", 5, x -> x.board(41, 2));
        leaves("board(2, 41)", 5, x -> x.board(2, 41));
        leaves("board(41, -1)", 5, x -> x.board(41, -1));
        leaves("board(greatest, greatest)", 5, x -> x.board(GREATEST, GREATEST));
        leaves("peg(1, 0, 9)", 2, x -> x.peg(1, 0, 9));
        leaves("look(1, 0)", 2, x -> x.look(1, 0));
        leaves("width(1)", 2, x -> x.width(1));
        for (int row : new int[] {-1, 3, 40, LEAST, GREATEST}) {
            leaves("peg(" + row + ", 0, 9)", 3, x -> x.peg(row, 0, 9));
            leaves("look(" + row + ", 0)", 3, x -> x.look(row, 0));
            leaves("take(" + row + ")", 3, x -> x.take(row));
            leaves("width(" + row + ")", 3, x -> x.width(row));
        }
        for (int cell : new int[] {-1, 2, 40, LEAST, GREATEST}) {
            leaves("peg(2, " + cell + ", 9)", 3, x -> x.peg(2, cell, 9));
            leaves("look(2, " + cell + ")", 3, x -> x.look(2, cell));
        }
    }

    private static void refusedOnANewObjectChangesNothing() {
        CHECK.sentence("Terms: What is refused changes nothing (a new object)");
        for (int roll = 0; roll < 5; roll++) {
            KeeperRolls x = new KeeperRolls();
            x.hang(roll, -1);
            x.hang(roll, 201);
            x.mark(roll, 0, 9);
            x.more(roll, 0, 9);
            x.pour(roll, 0, roll, 0);
            CHECK.due("told()", x.told(), 0);
            CHECK.due("count(0)", x.count(0), 0);
            x.hang(roll, 1);
            CHECK.tells("read(" + roll + ", 0)", x, x.read(roll, 0), 0);
        }
        KeeperRolls x = new KeeperRolls();
        x.board(-1, 1);
        x.board(1, 41);
        x.peg(0, 0, 9);
        x.take(0);
        CHECK.due("told()", x.told(), 0);
        CHECK.due("count(1)", x.count(1), -1);
        x.board(1, 1);
        CHECK.due("count(2)", x.count(2), 0);
        CHECK.tells("look(0, 0)", x, x.look(0, 0), 0);
    }

    /** Rolls 0 to 3 hang with cells 1, 0, 1; roll 4 was torn; row 1 of a board of 3 rows of 2 was TAKEN. */
    private static KeeperRolls full() {
        KeeperRolls x = new KeeperRolls();
        for (int roll = 0; roll < 5; roll++) {
            x.hang(roll, 3);
            x.mark(roll, 0, 1);
            x.mark(roll, 2, 1);
        }
        x.tear(4);
        x.board(3, 2);
        x.peg(0, 0, 6);
        x.peg(1, 0, 7);
        x.peg(2, 1, TOLD);
        x.take(1);
        return x;
    }

    private static void leaves(String call, int want, Act act) {
        KeeperRolls x = full();
        CHECK.refused(call, x, TOLD, act.on(x), want);
        isFull(x, call);
    }

    private static void isFull(KeeperRolls x, String call) {
        String after = " after " + call;
        CHECK.due("count(0)" + after, x.count(0), 4);
        CHECK.due("count(1)" + after, x.count(1), 3);
        CHECK.due("count(2)" + after, x.count(2), 1);
        for (int roll = 0; roll < 4; roll++) {
            CHECK.tells("size(" + roll + ")" + after, x, x.size(roll), 3);
            for (int i = 0; i < 3; i++) {
                CHECK.tells("read(" + roll + ", " + i + ")" + after, x, x.read(roll, i), i == 1 ? 0 : 1);
            }
        }
        CHECK.due("size(4)" + after, x.size(4), 2);
        for (int row = 0; row < 3; row += 2) {
            CHECK.tells("width(" + row + ")" + after, x, x.width(row), 2);
            CHECK.tells("look(" + row + ", 0)" + after, x, x.look(row, 0), row == 0 ? 6 : 0);
            CHECK.tells("look(" + row + ", 1)" + after, x, x.look(row, 1), row == 0 ? 0 : TOLD);
        }
        CHECK.due("width(1)" + after, x.width(1), 2);
    }
}
