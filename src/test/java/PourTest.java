/** Promise 9: pour. */
public final class PourTest {
    private static final int LEAST = Integer.MIN_VALUE;
    private static final int GREATEST = Integer.MAX_VALUE;
    private static final int[] WRONG_ROLLS = {-1, 5, LEAST, GREATEST};
    private static final Check CHECK = new Check();

    public static void main(String[] args) {
        pourPutsTheWholeToAnotherRoll();
        pourPutsItsLowestBytes();
        pourPutsWhetherItIsNotZero();
        pourPutsTheWholeOfGlass();
        pourPutsToGlassBeyondTheLimit();
        pourWithinOneRoll();
        pourOfACellToItself();
        pourOfTheFirstAndTheLastCells();
        noSuchRollOfEither();
        noSuchRollIsAheadOfTheFirstOnesFaults();
        firstDoesNotHang();
        firstHasNoSuchCell();
        otherDoesNotHang();
        otherHasNoSuchCell();
        firstIsAheadOfTheOther();
        CHECK.done();
    }

    private static KeeperRolls allHung() {
        KeeperRolls x = new KeeperRolls();
        for (int roll = 0; roll < 5; roll++) {
            x.hang(roll, 3);
        }
        return x;
    }

    /** What is told when a roll's cell marked v is poured to another one. */
    private static void pours(int from, int v, int to, int want) {
        KeeperRolls x = allHung();
        x.mark(from, 2, v);
        int own = x.told();
        x.size(from);
        String call = "pour(" + from + ", 2, " + to + ", 1) of " + v;
        CHECK.tells(call, x, x.pour(from, 2, to, 1), want);
        CHECK.tells("read of its target after " + call, x, x.read(to, 1), want);
        CHECK.tells("read of its source after " + call, x, x.read(from, 2), own);
        CHECK.tells("read ahead of its target after " + call, x, x.read(to, 0), 0);
    }

    private static void pourPutsTheWholeToAnotherRoll() {
        CHECK.sentence("Promise 9: The WHOLE of cell i of a roll is PUT to cell j of another one");
        int[][] wholes = {
            {65491, -45, 65491, 1, -45},
            {65491, -45, -45, 1, -45},
            {65491, -45, -45, 1, -45},
            {1, 1, 1, 1, 1},
            {65491, -45, -45, 1, -45},
        };
        for (int from = 0; from < 5; from++) {
            for (int to = 0; to < 5; to++) {
                pours(from, -45, to, wholes[from][to]);
            }
        }
    }

    private static void pourPutsItsLowestBytes() {
        CHECK.sentence("Promise 9: The WHOLE is PUT: its lowest bytes; whose WHOLE then is told");
        pours(0, 65535, 1, -1);
        pours(0, 32768, 1, -32768);
        pours(0, 128, 4, -128);
        pours(0, 256, 4, 0);
        pours(1, -1, 0, 65535);
        pours(1, -129, 4, 127);
        pours(4, -1, 0, 65535);
        pours(4, -128, 1, -128);
        pours(2, 65536, 0, 0);
        pours(2, 16777215, 4, -1);
    }

    private static void pourPutsWhetherItIsNotZero() {
        CHECK.sentence("Promise 9: The WHOLE is PUT: LAMPS, whether it is not 0");
        pours(0, 256, 3, 1);
        pours(1, -32768, 3, 1);
        pours(2, 1, 3, 1);
        pours(2, LEAST, 3, 1);
        pours(4, -128, 3, 1);
        for (int from = 0; from < 5; from++) {
            KeeperRolls x = allHung();
            x.mark(3, 1, 1);
            CHECK.tells("pour of 0 from " + from + " to a lit lamp", x, x.pour(from, 0, 3, 1), 0);
            CHECK.tells("read of it", x, x.read(3, 1), 0);
        }
    }

    private static void pourPutsTheWholeOfGlass() {
        CHECK.sentence("Promise 9: The WHOLE of GLASS (2147483647, if that is above) is PUT");
        pours(2, GREATEST, 0, 65535);
        pours(2, GREATEST, 1, -1);
        pours(2, GREATEST, 2, GREATEST);
        pours(2, GREATEST, 4, -1);
        pours(2, LEAST, 0, 0);
        pours(2, LEAST, 2, LEAST);
        pours(2, 16777219, 0, 4);
    }

    private static void pourPutsToGlassBeyondTheLimit() {
        // The document sets the limit of 500000 in promises 6 and 7 alone.
        CHECK.sentence("Promise 9: The WHOLE is PUT (GLASS, beyond 500000 or -500000)");
        pours(2, 8000001, 2, 8000001);
        pours(2, -8000001, 2, -8000001);
        pours(2, 16777216, 2, 16777216);
    }

    private static void pourWithinOneRoll() {
        CHECK.sentence("Promise 9: to cell j of another one (or itself)");
        for (int roll = 0; roll < 5; roll++) {
            KeeperRolls x = allHung();
            x.mark(roll, 0, 1);
            CHECK.tells("pour(" + roll + ", 0, " + roll + ", 2)", x, x.pour(roll, 0, roll, 2), 1);
            CHECK.tells("pour(" + roll + ", 1, " + roll + ", 0)", x, x.pour(roll, 1, roll, 0), 0);
            CHECK.tells("read(" + roll + ", 2)", x, x.read(roll, 2), 1);
            CHECK.tells("read(" + roll + ", 0)", x, x.read(roll, 0), 0);
        }
    }

    private static void pourOfACellToItself() {
        CHECK.sentence("Promise 9: (or itself), cell i and cell j being one");
        int[] wholes = {65413, -123, -123, 1, -123};
        for (int roll = 0; roll < 5; roll++) {
            KeeperRolls x = allHung();
            x.mark(roll, 1, -123);
            x.size(roll);
            CHECK.tells("pour(" + roll + ", 1, " + roll + ", 1)", x, x.pour(roll, 1, roll, 1), wholes[roll]);
            CHECK.tells("read(" + roll + ", 1)", x, x.read(roll, 1), wholes[roll]);
        }
    }

    private static void pourOfTheFirstAndTheLastCells() {
        CHECK.sentence("Promise 9: cell i and cell j, the first ones or the last ones");
        for (int from = 0; from < 5; from++) {
            int to = (from + 1) % 5;
            KeeperRolls x = new KeeperRolls();
            x.hang(from, 200);
            x.hang(to, 1);
            x.mark(from, 199, 1);
            CHECK.tells("pour of cell 199 to cell 0", x, x.pour(from, 199, to, 0), 1);
            x.hang(to, 200);
            CHECK.tells("pour of cell 199 to cell 199", x, x.pour(from, 199, to, 199), 1);
            CHECK.tells("pour of cell 0 to cell 199", x, x.pour(from, 0, to, 199), 0);
        }
    }

    private static void noSuchRollOfEither() {
        CHECK.sentence("Promise 9: (1 of either");
        for (int wrong : WRONG_ROLLS) {
            KeeperRolls x = allHung();
            CHECK.due("pour(" + wrong + ", 0, 1, 0)", x.pour(wrong, 0, 1, 0), 1);
            CHECK.due("pour(1, 0, " + wrong + ", 0)", x.pour(1, 0, wrong, 0), 1);
            CHECK.due("pour(" + wrong + ", 0, " + wrong + ", 0)", x.pour(wrong, 0, wrong, 0), 1);
        }
    }

    private static void noSuchRollIsAheadOfTheFirstOnesFaults() {
        CHECK.sentence("Promise 9: (1 of either; then 2, 3");
        for (int wrong : WRONG_ROLLS) {
            KeeperRolls x = new KeeperRolls();
            x.hang(1, 2);
            CHECK.due("pour(0, 0, " + wrong + ", 0): first does not hang", x.pour(0, 0, wrong, 0), 1);
            CHECK.due("pour(1, 2, " + wrong + ", 0): first has no such cell", x.pour(1, 2, wrong, 0), 1);
            CHECK.due("pour(" + wrong + ", 0, 0, 0): other does not hang", x.pour(wrong, 0, 0, 0), 1);
            CHECK.due("pour(" + wrong + ", 0, 1, 2): other has no such cell", x.pour(wrong, 0, 1, 2), 1);
        }
    }

    private static void firstDoesNotHang() {
        CHECK.sentence("Promise 9: then 2 of the first one");
        for (int from = 0; from < 5; from++) {
            KeeperRolls x = allHung();
            x.tear(from);
            CHECK.due("pour(" + from + ", 0, other, 0)", x.pour(from, 0, (from + 1) % 5, 0), 2);
            CHECK.due("pour(" + from + ", 3, other, 0)", x.pour(from, 3, (from + 1) % 5, 0), 2);
        }
    }

    private static void firstHasNoSuchCell() {
        CHECK.sentence("Promise 9: then 3 of the first one");
        for (int from = 0; from < 5; from++) {
            KeeperRolls x = allHung();
            for (int i : new int[] {-1, 3, 200, LEAST, GREATEST}) {
                CHECK.due("pour(" + from + ", " + i + ", other, 0)", x.pour(from, i, (from + 1) % 5, 0), 3);
            }
        }
    }

    private static void otherDoesNotHang() {
        CHECK.sentence("Promise 9: 2 of the other");
        for (int to = 0; to < 5; to++) {
            KeeperRolls x = allHung();
            x.tear(to);
            CHECK.due("pour(first, 0, " + to + ", 0)", x.pour((to + 1) % 5, 0, to, 0), 2);
            CHECK.due("pour(first, 0, " + to + ", 3)", x.pour((to + 1) % 5, 0, to, 3), 2);
        }
    }

    private static void otherHasNoSuchCell() {
        CHECK.sentence("Promise 9: 3 of the other");
        for (int to = 0; to < 5; to++) {
            KeeperRolls x = allHung();
            for (int j : new int[] {-1, 3, 200, LEAST, GREATEST}) {
                CHECK.due("pour(first, 0, " + to + ", " + j + ")", x.pour((to + 1) % 5, 0, to, j), 3);
                CHECK.due("pour(itself, 0, " + to + ", " + j + ")", x.pour(to, 0, to, j), 3);
            }
            x.hang(to, 2);
            CHECK.due("a cell of the first, not of the other", x.pour((to + 1) % 5, 2, to, 2), 3);
        }
    }

    private static void firstIsAheadOfTheOther() {
        CHECK.sentence("Promise 9: 2, 3 of the first one ahead of 2, 3 of the other");
        KeeperRolls x = new KeeperRolls();
        x.hang(1, 2);
        CHECK.due("first does not hang, other has no such cell", x.pour(0, 0, 1, 2), 2);
        CHECK.due("first has no cell 2, other does not hang", x.pour(1, 2, 0, 0), 3);
        CHECK.due("first has no cell -1, other does not hang", x.pour(1, -1, 0, 0), 3);
        CHECK.due("neither hangs", x.pour(0, 0, 2, 0), 2);
        CHECK.due("neither has such a cell", x.pour(1, 2, 1, 2), 3);
    }
}
