/** Promise 9: pour. */
public final class PourTest {
    private static final int[] WRONG_ROLLS = {-1, 5, Integer.MIN_VALUE, Integer.MAX_VALUE};
    private static final Check CHECK = new Check();

    public static void main(String[] args) {
        fromEachToEach();
        ofGlassAtItsEnds();
        withinOneRoll();
        refusesInTheOrderOfTheDocument();
        whatIsRefusedChangesNothing();
        CHECK.done();
    }

    private static KeeperRolls allHung() {
        KeeperRolls x = new KeeperRolls();
        for (int roll = 0; roll < 5; roll++) {
            x.hang(roll, 3);
        }
        return x;
    }

    private static void fromEachToEach() {
        int[][] wholes = {
            {65491, -45, 65491, 1, -45},
            {65491, -45, -45, 1, -45},
            {65491, -45, -45, 1, -45},
            {1, 1, 1, 1, 1},
            {65491, -45, -45, 1, -45},
        };
        for (int from = 0; from < 5; from++) {
            for (int to = 0; to < 5; to++) {
                KeeperRolls x = allHung();
                x.mark(from, 2, -45);
                int own = x.told();
                String call = "pour(" + from + ", 2, " + to + ", 1)";
                CHECK.tells(call, x, x.pour(from, 2, to, 1), wholes[from][to]);
                CHECK.tells("read of its target", x, x.read(to, 1), wholes[from][to]);
                CHECK.tells("read of its source", x, x.read(from, 2), own);
                CHECK.tells("read beside its target", x, x.read(to, 0), 0);
            }
        }
    }

    private static void ofGlassAtItsEnds() {
        KeeperRolls x = allHung();
        x.mark(2, 0, Integer.MAX_VALUE);
        CHECK.tells("pour of the greatest to GLASS", x, x.pour(2, 0, 2, 1), Integer.MAX_VALUE);
        CHECK.tells("pour of the greatest to LETTERS", x, x.pour(2, 0, 0, 0), 65535);
        CHECK.tells("pour of the greatest to NOTCHES", x, x.pour(2, 0, 4, 0), -1);
        x.mark(2, 0, Integer.MIN_VALUE);
        CHECK.tells("pour of the least to GLASS", x, x.pour(2, 0, 2, 1), Integer.MIN_VALUE);
        CHECK.tells("pour of the least to LAMPS", x, x.pour(2, 0, 3, 0), 1);
        CHECK.tells("pour of the least to DEPTHS", x, x.pour(2, 0, 1, 0), 0);
        x.mark(2, 0, 0);
        CHECK.tells("pour of 0 to a lit lamp", x, x.pour(2, 0, 3, 0), 0);
    }

    private static void withinOneRoll() {
        for (int roll = 0; roll < 5; roll++) {
            KeeperRolls x = allHung();
            x.mark(roll, 0, 1);
            CHECK.tells("pour to itself", x, x.pour(roll, 0, roll, 0), 1);
            CHECK.tells("pour to another cell", x, x.pour(roll, 0, roll, 2), 1);
            CHECK.tells("pour back of 0", x, x.pour(roll, 1, roll, 0), 0);
            CHECK.tells("read of the cell poured to", x, x.read(roll, 2), 1);
        }
    }

    private static void refusesInTheOrderOfTheDocument() {
        KeeperRolls x = new KeeperRolls();
        x.hang(1, 2);
        x.hang(3, 4);
        for (int wrong : WRONG_ROLLS) {
            CHECK.due("no first roll", x.pour(wrong, 0, 1, 0), 1);
            CHECK.due("no other roll", x.pour(1, 0, wrong, 0), 1);
            CHECK.due("no other roll, first does not hang", x.pour(0, 0, wrong, 0), 1);
            CHECK.due("no other roll, first has no such cell", x.pour(1, 2, wrong, 0), 1);
            CHECK.due("neither roll", x.pour(wrong, -1, wrong, -1), 1);
        }
        CHECK.due("first does not hang", x.pour(0, 0, 1, 0), 2);
        CHECK.due("other does not hang", x.pour(1, 0, 0, 0), 2);
        CHECK.due("first does not hang, other has no such cell", x.pour(0, 0, 1, 2), 2);
        CHECK.due("first has no such cell, other does not hang", x.pour(1, 2, 0, 0), 3);
        CHECK.due("first has no cell -1, other does not hang", x.pour(1, -1, 0, 0), 3);
        CHECK.due("first has no such cell", x.pour(1, 2, 3, 2), 3);
        CHECK.due("other has no such cell", x.pour(3, 2, 1, 2), 3);
        CHECK.due("other has no cell -1", x.pour(3, 3, 1, -1), 3);
        CHECK.due("the last cells", x.pour(3, 3, 1, 1), 0);
    }

    private static void whatIsRefusedChangesNothing() {
        KeeperRolls x = new KeeperRolls();
        x.hang(0, 1);
        x.hang(1, 1);
        x.mark(0, 0, 8);
        x.mark(1, 0, 9);
        CHECK.refused("pour from cell 1", x, 9, x.pour(0, 1, 1, 0), 3);
        CHECK.refused("pour to cell 1", x, 9, x.pour(0, 0, 1, 1), 3);
        CHECK.refused("pour to no roll", x, 9, x.pour(0, 0, 5, 0), 1);
        CHECK.refused("pour to a roll that does not hang", x, 9, x.pour(0, 0, 2, 0), 2);
        CHECK.due("count(0)", x.count(0), 2);
        CHECK.tells("read(0, 0)", x, x.read(0, 0), 8);
        CHECK.tells("read(1, 0)", x, x.read(1, 0), 9);
    }
}
