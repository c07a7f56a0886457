/** Promises 1 to 5 and 8: a new object, hang, tear, read, mark, size. */
public final class RollsTest {
    private static final int LEAST = Integer.MIN_VALUE;
    private static final int GREATEST = Integer.MAX_VALUE;
    private static final int[] WRONG_ROLLS = {-1, 5, LEAST, GREATEST};
    private static final Check CHECK = new Check();

    public static void main(String[] args) {
        newObjectHasNoRoll();
        newObjectHasNoBoard();
        hangHangsARollOfNCells();
        hangOfNoCells();
        hangOfTheMostCells();
        hangRefusesMoreThanTheMost();
        hangRefusesBelowZero();
        hangRefusesNoSuchRoll();
        hangMakesEachCellZero();
        hangTakesThePlaceOfALongerOne();
        hangTakesThePlaceOfAShorterOne();
        hangTakesThePlaceOfOneAsLong();
        hangLeavesNoCellOfTheElderOne();
        hangLeavesTheOtherRolls();
        refusedHangLeavesTheElderOne();
        tearEndsTheHanging();
        tearOfARollOfNoCells();
        tearRefusesWhatDoesNotHang();
        tearRefusesNoSuchRoll();
        tornRollsCanHangAgain();
        readTellsTheWhole();
        readChangesNoCell();
        readRefuses();
        markTellsTheWholeThen();
        markOfTheFirstAndTheLastCell();
        markOfGlassHasNoLimit();
        markRefuses();
        sizeTells();
        sizeRefuses();
        CHECK.done();
    }

    private static KeeperRolls hung(int roll, int n) {
        KeeperRolls x = new KeeperRolls();
        CHECK.due("hang(" + roll + ", " + n + ")", x.hang(roll, n), 0);
        return x;
    }

    /** A roll whose cells are all 1. */
    private static KeeperRolls marked(int roll, int n) {
        KeeperRolls x = hung(roll, n);
        for (int i = 0; i < n; i++) {
            x.mark(roll, i, 1);
        }
        return x;
    }

    private static void cellsAre(KeeperRolls x, int roll, int first, int end, int want) {
        for (int i = first; i < end; i++) {
            CHECK.tells("read(" + roll + ", " + i + ")", x, x.read(roll, i), want);
        }
    }

    private static void newObjectHasNoRoll() {
        CHECK.sentence("Promise 1: No roll hangs");
        for (int roll = 0; roll < 5; roll++) {
            KeeperRolls x = new KeeperRolls();
            CHECK.due("read(" + roll + ", 0)", x.read(roll, 0), 2);
            CHECK.due("mark(" + roll + ", 0, 1)", x.mark(roll, 0, 1), 2);
            CHECK.due("more(" + roll + ", 0, 1)", x.more(roll, 0, 1), 2);
            CHECK.due("times(" + roll + ", 0, 1)", x.times(roll, 0, 1), 2);
            CHECK.due("size(" + roll + ")", x.size(roll), 2);
            CHECK.due("pour(" + roll + ", 0, " + roll + ", 0)", x.pour(roll, 0, roll, 0), 2);
            CHECK.due("tear(" + roll + ")", x.tear(roll), 2);
            CHECK.due("count(0)", x.count(0), 0);
        }
    }

    private static void newObjectHasNoBoard() {
        CHECK.sentence("Promise 1: no board");
        KeeperRolls x = new KeeperRolls();
        CHECK.due("peg(0, 0, 1)", x.peg(0, 0, 1), 2);
        CHECK.due("look(0, 0)", x.look(0, 0), 2);
        CHECK.due("take(0)", x.take(0), 2);
        CHECK.due("width(0)", x.width(0), 2);
        CHECK.due("count(1)", x.count(1), -1);
        CHECK.due("count(2)", x.count(2), 0);
    }

    private static void hangHangsARollOfNCells() {
        CHECK.sentence("Promise 2: A new roll with n cells hangs");
        for (int roll = 0; roll < 5; roll++) {
            for (int n : new int[] {1, 2, 7, 199}) {
                KeeperRolls x = hung(roll, n);
                CHECK.due("count(0)", x.count(0), 1);
                CHECK.due("read of the last cell of " + n, x.read(roll, n - 1), 0);
                CHECK.due("read beyond the last cell of " + n, x.read(roll, n), 3);
            }
        }
    }

    private static void hangOfNoCells() {
        CHECK.sentence("Promise 2: n cells, and n is 0");
        for (int roll = 0; roll < 5; roll++) {
            KeeperRolls x = hung(roll, 0);
            CHECK.due("count(0)", x.count(0), 1);
            CHECK.tells("size(" + roll + ")", x, x.size(roll), 0);
            CHECK.due("read(" + roll + ", 0)", x.read(roll, 0), 3);
            CHECK.due("mark(" + roll + ", 0, 1)", x.mark(roll, 0, 1), 3);
            CHECK.due("more(" + roll + ", 0, 1)", x.more(roll, 0, 1), 3);
            CHECK.due("times(" + roll + ", 0, 1)", x.times(roll, 0, 1), 3);
            CHECK.due("read(" + roll + ", -1)", x.read(roll, -1), 3);
        }
    }

    private static void hangOfTheMostCells() {
        CHECK.sentence("Promise 2: n cells, and n is 200");
        for (int roll = 0; roll < 5; roll++) {
            KeeperRolls x = hung(roll, 200);
            CHECK.tells("size(" + roll + ")", x, x.size(roll), 200);
            CHECK.tells("mark(" + roll + ", 199, 1)", x, x.mark(roll, 199, 1), 1);
            CHECK.due("read(" + roll + ", 200)", x.read(roll, 200), 3);
        }
    }

    private static void hangRefusesMoreThanTheMost() {
        CHECK.sentence("Promise 2: (5: n is above 200)");
        for (int roll = 0; roll < 5; roll++) {
            for (int n : new int[] {201, 202, 65536, GREATEST}) {
                KeeperRolls x = new KeeperRolls();
                CHECK.due("hang(" + roll + ", " + n + ")", x.hang(roll, n), 5);
                CHECK.due("count(0)", x.count(0), 0);
            }
        }
    }

    private static void hangRefusesBelowZero() {
        CHECK.sentence("Terms: 4 a size is below 0 (hang)");
        for (int roll = 0; roll < 5; roll++) {
            for (int n : new int[] {-1, -200, LEAST}) {
                KeeperRolls x = new KeeperRolls();
                CHECK.due("hang(" + roll + ", " + n + ")", x.hang(roll, n), 4);
                CHECK.due("count(0)", x.count(0), 0);
            }
        }
    }

    private static void hangRefusesNoSuchRoll() {
        CHECK.sentence("Terms: 1 there is no such roll (hang)");
        for (int roll : WRONG_ROLLS) {
            KeeperRolls x = new KeeperRolls();
            CHECK.due("hang(" + roll + ", 2)", x.hang(roll, 2), 1);
            CHECK.due("count(0)", x.count(0), 0);
        }
    }

    private static void hangMakesEachCellZero() {
        CHECK.sentence("Promise 2: each cell 0");
        for (int roll = 0; roll < 5; roll++) {
            cellsAre(hung(roll, 200), roll, 0, 200, 0);
        }
    }

    private static void hangTakesThePlaceOfALongerOne() {
        CHECK.sentence("Promise 2: in the place of the elder one (a longer one)");
        for (int roll = 0; roll < 5; roll++) {
            KeeperRolls x = marked(roll, 4);
            CHECK.tells("hang(" + roll + ", 2)", x, x.hang(roll, 2), 1);
            CHECK.due("count(0)", x.count(0), 1);
            CHECK.due("read(" + roll + ", 2)", x.read(roll, 2), 3);
            cellsAre(x, roll, 0, 2, 0);
            CHECK.tells("size(" + roll + ")", x, x.size(roll), 2);
        }
    }

    private static void hangTakesThePlaceOfAShorterOne() {
        CHECK.sentence("Promise 2: in the place of the elder one (a shorter one)");
        for (int roll = 0; roll < 5; roll++) {
            KeeperRolls x = marked(roll, 2);
            CHECK.tells("hang(" + roll + ", 4)", x, x.hang(roll, 4), 1);
            CHECK.due("count(0)", x.count(0), 1);
            cellsAre(x, roll, 0, 4, 0);
            CHECK.tells("size(" + roll + ")", x, x.size(roll), 4);
        }
    }

    private static void hangTakesThePlaceOfOneAsLong() {
        CHECK.sentence("Promise 2: in the place of the elder one (one as long), each cell 0");
        for (int roll = 0; roll < 5; roll++) {
            // In two halves: marks and reads of all 200 cells are more calls than an object promises.
            for (int first = 0; first < 200; first += 100) {
                KeeperRolls x = hung(roll, 200);
                for (int i = first; i < first + 100; i++) {
                    x.mark(roll, i, 1);
                }
                x.hang(roll, 200);
                cellsAre(x, roll, first, first + 100, 0);
            }
        }
    }

    private static void hangLeavesNoCellOfTheElderOne() {
        CHECK.sentence("Promise 2: each cell 0 (after a shorter one or none hung in between)");
        for (int roll = 0; roll < 5; roll++) {
            KeeperRolls x = marked(roll, 5);
            x.hang(roll, 0);
            x.hang(roll, 5);
            cellsAre(x, roll, 0, 5, 0);
            x = marked(roll, 5);
            x.tear(roll);
            x.hang(roll, 5);
            cellsAre(x, roll, 0, 5, 0);
        }
    }

    private static void hangLeavesTheOtherRolls() {
        CHECK.sentence("Promise 2: in the place of the elder one, and of no other");
        for (int hung = 0; hung < 5; hung++) {
            KeeperRolls x = new KeeperRolls();
            for (int roll = 0; roll < 5; roll++) {
                x.hang(roll, 2);
                x.mark(roll, 1, 1);
            }
            x.hang(hung, 3);
            for (int roll = 0; roll < 5; roll++) {
                CHECK.tells("read(" + roll + ", 1)", x, x.read(roll, 1), roll == hung ? 0 : 1);
                CHECK.tells("size(" + roll + ")", x, x.size(roll), roll == hung ? 3 : 2);
            }
        }
    }

    private static void refusedHangLeavesTheElderOne() {
        CHECK.sentence("Terms: What is refused changes nothing (hang)");
        for (int roll = 0; roll < 5; roll++) {
            for (int n : new int[] {-1, 201, LEAST, GREATEST}) {
                KeeperRolls x = marked(roll, 3);
                x.hang(roll, n);
                CHECK.due("told() after hang(" + roll + ", " + n + ")", x.told(), 1);
                cellsAre(x, roll, 0, 3, 1);
                CHECK.tells("size(" + roll + ")", x, x.size(roll), 3);
            }
        }
    }

    private static void tearEndsTheHanging() {
        CHECK.sentence("Promise 3: A roll hangs no more");
        for (int torn = 0; torn < 5; torn++) {
            KeeperRolls x = new KeeperRolls();
            for (int roll = 0; roll < 5; roll++) {
                x.hang(roll, 2);
                x.mark(roll, 1, 1);
            }
            CHECK.tells("tear(" + torn + ")", x, x.tear(torn), 1);
            CHECK.due("count(0)", x.count(0), 4);
            CHECK.due("read(" + torn + ", 1)", x.read(torn, 1), 2);
            CHECK.due("size(" + torn + ")", x.size(torn), 2);
            for (int roll = 0; roll < 5; roll++) {
                if (roll != torn) {
                    CHECK.tells("read(" + roll + ", 1)", x, x.read(roll, 1), 1);
                }
            }
        }
    }

    private static void tearOfARollOfNoCells() {
        CHECK.sentence("Promise 3: A roll hangs no more (one of 0 cells, one of 200)");
        for (int roll = 0; roll < 5; roll++) {
            for (int n : new int[] {0, 200}) {
                KeeperRolls x = hung(roll, n);
                CHECK.due("tear(" + roll + ")", x.tear(roll), 0);
                CHECK.due("size(" + roll + ")", x.size(roll), 2);
            }
        }
    }

    private static void tearRefusesWhatDoesNotHang() {
        CHECK.sentence("Terms: 2 the roll does not hang (tear)");
        for (int roll = 0; roll < 5; roll++) {
            KeeperRolls x = new KeeperRolls();
            CHECK.due("tear(" + roll + ") of none", x.tear(roll), 2);
            x.hang(roll, 1);
            CHECK.due("tear(" + roll + ")", x.tear(roll), 0);
            CHECK.due("tear(" + roll + ") again", x.tear(roll), 2);
        }
    }

    private static void tearRefusesNoSuchRoll() {
        CHECK.sentence("Terms: 1 there is no such roll (tear)");
        for (int roll : WRONG_ROLLS) {
            CHECK.due("tear(" + roll + ")", new KeeperRolls().tear(roll), 1);
        }
    }

    private static void tornRollsCanHangAgain() {
        CHECK.sentence("Promise 3: no more, until promise 2 hangs a new one");
        for (int roll = 0; roll < 5; roll++) {
            KeeperRolls x = marked(roll, 3);
            x.tear(roll);
            CHECK.due("hang(" + roll + ", 2)", x.hang(roll, 2), 0);
            CHECK.due("count(0)", x.count(0), 1);
            CHECK.tells("size(" + roll + ")", x, x.size(roll), 2);
            cellsAre(x, roll, 0, 2, 0);
        }
    }

    private static void readTellsTheWhole() {
        CHECK.sentence("Promise 4: The WHOLE of cell i is told");
        int[] wholes = {40000, -25536, 40000, 1, 64};
        for (int roll = 0; roll < 5; roll++) {
            for (int i : new int[] {0, 1, 199}) {
                KeeperRolls x = hung(roll, 200);
                x.mark(roll, i, 40000);
                x.size(roll);
                CHECK.tells("read(" + roll + ", " + i + ")", x, x.read(roll, i), wholes[roll]);
                CHECK.tells("read(" + roll + ", 100)", x, x.read(roll, 100), 0);
            }
        }
    }

    private static void readChangesNoCell() {
        CHECK.sentence("Promise 4: is told, and no more");
        for (int roll = 0; roll < 5; roll++) {
            KeeperRolls x = marked(roll, 3);
            cellsAre(x, roll, 0, 3, 1);
            cellsAre(x, roll, 0, 3, 1);
        }
    }

    private static void readRefuses() {
        CHECK.sentence("Terms: 1, 2, 3 (read)");
        for (int roll : WRONG_ROLLS) {
            KeeperRolls x = new KeeperRolls();
            CHECK.refused("read(" + roll + ", 0)", x, 0, x.read(roll, 0), 1);
        }
        for (int roll = 0; roll < 5; roll++) {
            KeeperRolls x = new KeeperRolls();
            CHECK.refused("read(" + roll + ", 0) of none", x, 0, x.read(roll, 0), 2);
            x = marked(roll, 3);
            for (int i : new int[] {-1, 3, 199, 200, LEAST, GREATEST}) {
                CHECK.refused("read(" + roll + ", " + i + ")", x, 1, x.read(roll, i), 3);
            }
        }
    }

    private static void markTellsTheWholeThen() {
        CHECK.sentence("Promise 5: v is PUT to cell i; its WHOLE then is told");
        int[] wholes = {4464, 4464, 70000, 1, 112};
        for (int roll = 0; roll < 5; roll++) {
            KeeperRolls x = hung(roll, 3);
            CHECK.tells("mark(" + roll + ", 1, 70000)", x, x.mark(roll, 1, 70000), wholes[roll]);
            cellsAre(x, roll, 0, 1, 0);
            cellsAre(x, roll, 1, 2, wholes[roll]);
            cellsAre(x, roll, 2, 3, 0);
            CHECK.tells("mark(" + roll + ", 1, 0)", x, x.mark(roll, 1, 0), 0);
            cellsAre(x, roll, 1, 2, 0);
        }
    }

    private static void markOfTheFirstAndTheLastCell() {
        CHECK.sentence("Promise 5: v is PUT to cell i, the first one or the last one");
        for (int roll = 0; roll < 5; roll++) {
            KeeperRolls x = hung(roll, 200);
            CHECK.tells("mark(" + roll + ", 0, 1)", x, x.mark(roll, 0, 1), 1);
            CHECK.tells("read(" + roll + ", 199)", x, x.read(roll, 199), 0);
            CHECK.tells("mark(" + roll + ", 199, 1)", x, x.mark(roll, 199, 1), 1);
            CHECK.tells("read(" + roll + ", 0)", x, x.read(roll, 0), 1);
            cellsAre(x, roll, 1, 199, 0);
        }
    }

    private static void markOfGlassHasNoLimit() {
        // The document sets the limit of 500000 in promises 6 and 7 alone.
        CHECK.sentence("Promise 5: v is PUT to cell i (GLASS, beyond 500000 or -500000)");
        KeeperRolls x = hung(2, 1);
        for (int v : new int[] {8000000, 8000001, 8000016, -8000000, -8000001, -8000016, LEAST, GREATEST}) {
            CHECK.tells("mark(2, 0, " + v + ")", x, x.mark(2, 0, v), v);
            CHECK.tells("read(2, 0)", x, x.read(2, 0), v);
        }
    }

    private static void markRefuses() {
        CHECK.sentence("Terms: 1, 2, 3 (mark)");
        for (int roll : WRONG_ROLLS) {
            KeeperRolls x = new KeeperRolls();
            CHECK.refused("mark(" + roll + ", 0, 5)", x, 0, x.mark(roll, 0, 5), 1);
        }
        for (int roll = 0; roll < 5; roll++) {
            KeeperRolls x = new KeeperRolls();
            CHECK.refused("mark(" + roll + ", 0, 5) of none", x, 0, x.mark(roll, 0, 5), 2);
            x = marked(roll, 3);
            for (int i : new int[] {-1, 3, 199, 200, LEAST, GREATEST}) {
                CHECK.refused("mark(" + roll + ", " + i + ", 5)", x, 1, x.mark(roll, i, 5), 3);
            }
            cellsAre(x, roll, 0, 3, 1);
        }
    }

    private static void sizeTells() {
        CHECK.sentence("Promise 8: How many cells it has is told");
        for (int roll = 0; roll < 5; roll++) {
            KeeperRolls x = new KeeperRolls();
            for (int n : new int[] {200, 1, 199, 0, 3}) {
                x.hang(roll, n);
                CHECK.tells("size(" + roll + ") of " + n, x, x.size(roll), n);
            }
        }
    }

    private static void sizeRefuses() {
        CHECK.sentence("Terms: 1, 2 (size)");
        for (int roll = 0; roll < 5; roll++) {
            KeeperRolls x = hung(roll, 7);
            x.size(roll);
            for (int wrong : WRONG_ROLLS) {
                CHECK.refused("size(" + wrong + ")", x, 7, x.size(wrong), 1);
            }
            int other = (roll + 1) % 5;
            CHECK.refused("size(" + other + ") of none", x, 7, x.size(other), 2);
            x.tear(roll);
            CHECK.refused("size(" + roll + ") of a torn one", x, 7, x.size(roll), 2);
        }
    }
}
