/** Promises 1 to 5 and 8: a new object, hang, tear, read, mark, size. */
public final class RollsTest {
    private static final int[] WRONG_ROLLS = {-1, 5, Integer.MIN_VALUE, Integer.MAX_VALUE};
    private static final Check CHECK = new Check();

    public static void main(String[] args) {
        promise1NothingHangsAtFirst();
        promise2HangMakesCellsOfZero();
        promise2HangReplacesTheElderRoll();
        promise2HangRefuses();
        promise3TearLeavesTheOthers();
        promise3TearRefuses();
        promise4ReadTellsTheWhole();
        promise4ReadRefuses();
        promise5MarkPutsIntegers();
        promise5MarkPutsGlass();
        promise5MarkPutsLamps();
        promise5MarkRefuses();
        promise8SizeTells();
        promise8SizeRefuses();
        CHECK.done();
    }

    private static KeeperRolls hung(int roll, int n) {
        KeeperRolls x = new KeeperRolls();
        CHECK.due("hang(" + roll + ", " + n + ")", x.hang(roll, n), 0);
        return x;
    }

    private static void promise1NothingHangsAtFirst() {
        KeeperRolls x = new KeeperRolls();
        for (int roll = 0; roll < 5; roll++) {
            CHECK.due("size of a new object's roll " + roll, x.size(roll), 2);
            CHECK.due("read of a new object's roll " + roll, x.read(roll, 0), 2);
        }
        CHECK.due("new: width(0)", x.width(0), 2);
        CHECK.due("new: count(0)", x.count(0), 0);
        CHECK.due("new: count(1)", x.count(1), -1);
        CHECK.due("new: count(2)", x.count(2), 0);
        CHECK.due("new: told()", x.told(), 0);
        KeeperRolls other = hung(0, 1);
        other.mark(0, 0, 7);
        CHECK.due("an object apart: size(0)", x.size(0), 2);
        CHECK.due("an object apart: told()", x.told(), 0);
    }

    private static void promise2HangMakesCellsOfZero() {
        for (int roll = 0; roll < 5; roll++) {
            KeeperRolls x = hung(roll, 200);
            for (int i = 0; i < 200; i++) {
                CHECK.tells("read(" + roll + ", " + i + ")", x, x.read(roll, i), 0);
            }
            CHECK.due("read beyond 200", x.read(roll, 200), 3);
            CHECK.due("hang of none", x.hang(roll, 0), 0);
            CHECK.due("read of none", x.read(roll, 0), 3);
            CHECK.due("count(0)", x.count(0), 1);
        }
    }

    private static void promise2HangReplacesTheElderRoll() {
        for (int roll = 0; roll < 5; roll++) {
            KeeperRolls x = hung(roll, 4);
            for (int i = 0; i < 4; i++) {
                x.mark(roll, i, 1);
            }
            CHECK.due("hang shorter", x.hang(roll, 2), 0);
            CHECK.due("told() after hang", x.told(), 1);
            CHECK.tells("read(0) anew", x, x.read(roll, 0), 0);
            CHECK.due("read(2) of a shorter one", x.read(roll, 2), 3);
            CHECK.due("hang longer", x.hang(roll, 4), 0);
            for (int i = 0; i < 4; i++) {
                CHECK.tells("read(" + i + ") of a longer one", x, x.read(roll, i), 0);
            }
            x.mark(roll, 3, 1);
            x.tear(roll);
            x.hang(roll, 4);
            CHECK.tells("read(3) after a tear", x, x.read(roll, 3), 0);
        }
    }

    private static void promise2HangRefuses() {
        for (int roll : WRONG_ROLLS) {
            KeeperRolls x = hung(1, 2);
            CHECK.due("hang on roll " + roll, x.hang(roll, 2), 1);
            CHECK.due("hang of 201 on roll " + roll, x.hang(roll, 201), 1);
            CHECK.due("hang of -1 on roll " + roll, x.hang(roll, -1), 1);
            CHECK.due("count(0)", x.count(0), 1);
        }
        for (int roll = 0; roll < 5; roll++) {
            KeeperRolls x = hung(roll, 3);
            x.mark(roll, 2, 1);
            CHECK.refused("hang(201)", x, 1, x.hang(roll, 201), 5);
            CHECK.refused("hang(greatest)", x, 1, x.hang(roll, Integer.MAX_VALUE), 5);
            CHECK.refused("hang(-1)", x, 1, x.hang(roll, -1), 4);
            CHECK.refused("hang(least)", x, 1, x.hang(roll, Integer.MIN_VALUE), 4);
            CHECK.tells("size after refusals", x, x.size(roll), 3);
            CHECK.tells("read after refusals", x, x.read(roll, 2), 1);
            x.tear(roll);
            x.hang(roll, -1);
            x.hang(roll, 201);
            CHECK.due("a refused hang hangs nothing", x.size(roll), 2);
        }
    }

    private static void promise3TearLeavesTheOthers() {
        KeeperRolls x = new KeeperRolls();
        for (int roll = 0; roll < 5; roll++) {
            x.hang(roll, 2);
            x.mark(roll, 1, 1);
        }
        for (int roll = 0; roll < 5; roll++) {
            x.size(4);
            CHECK.due("tear(" + roll + ")", x.tear(roll), 0);
            CHECK.due("told() after tear", x.told(), 2);
            CHECK.due("count(0)", x.count(0), 4 - roll);
            CHECK.due("read of a torn roll", x.read(roll, 1), 2);
            for (int other = roll + 1; other < 5; other++) {
                CHECK.tells("read of another roll", x, x.read(other, 1), 1);
            }
        }
    }

    private static void promise3TearRefuses() {
        KeeperRolls x = hung(4, 1);
        x.mark(4, 0, 9);
        for (int roll : WRONG_ROLLS) {
            CHECK.refused("tear(" + roll + ")", x, 9, x.tear(roll), 1);
        }
        CHECK.refused("tear of none", x, 9, x.tear(0), 2);
        CHECK.due("tear", x.tear(4), 0);
        CHECK.refused("tear again", x, 9, x.tear(4), 2);
    }

    private static void promise4ReadTellsTheWhole() {
        int[] marks = {40000, 40000, 40000, 40000, 40000};
        int[] wholes = {40000, -25536, 40000, 1, 64};
        for (int roll = 0; roll < 5; roll++) {
            KeeperRolls x = hung(roll, 3);
            x.mark(roll, 1, marks[roll]);
            x.size(roll);
            CHECK.tells("read of roll " + roll, x, x.read(roll, 1), wholes[roll]);
            CHECK.tells("read again", x, x.read(roll, 1), wholes[roll]);
            CHECK.tells("read of the cell ahead", x, x.read(roll, 0), 0);
            CHECK.tells("read of the cell behind", x, x.read(roll, 2), 0);
        }
    }

    private static void promise4ReadRefuses() {
        for (int roll : WRONG_ROLLS) {
            KeeperRolls x = new KeeperRolls();
            CHECK.refused("read of roll " + roll, x, 0, x.read(roll, -1), 1);
        }
        for (int roll = 0; roll < 5; roll++) {
            KeeperRolls x = new KeeperRolls();
            CHECK.refused("read of none", x, 0, x.read(roll, -1), 2);
            x.hang(roll, 3);
            x.size(roll);
            CHECK.refused("read(3)", x, 3, x.read(roll, 3), 3);
            CHECK.refused("read(-1)", x, 3, x.read(roll, -1), 3);
            CHECK.refused("read(greatest)", x, 3, x.read(roll, Integer.MAX_VALUE), 3);
            CHECK.refused("read(least)", x, 3, x.read(roll, Integer.MIN_VALUE), 3);
        }
    }

    private static void marks(int roll, int v, int want) {
        KeeperRolls x = hung(roll, 2);
        CHECK.tells("mark(" + roll + ", 1, " + v + ")", x, x.mark(roll, 1, v), want);
        CHECK.tells("read of the other cell", x, x.read(roll, 0), 0);
        CHECK.tells("read of the marked cell", x, x.read(roll, 1), want);
    }

    private static void promise5MarkPutsIntegers() {
        marks(0, 65535, 65535);
        marks(0, 65536, 0);
        marks(0, -1, 65535);
        marks(0, Integer.MIN_VALUE, 0);
        marks(0, Integer.MAX_VALUE, 65535);
        marks(1, 32767, 32767);
        marks(1, 32768, -32768);
        marks(1, -32769, 32767);
        marks(1, 65535, -1);
        marks(4, 127, 127);
        marks(4, 128, -128);
        marks(4, -129, 127);
        marks(4, 256, 0);
        marks(4, 0x12345678, 0x78);
    }

    private static void promise5MarkPutsGlass() {
        marks(2, 1, 1);
        marks(2, -1, -1);
        marks(2, 16777216, 16777216);
        marks(2, 16777217, 16777216);
        marks(2, 16777218, 16777218);
        marks(2, 16777219, 16777220);
        marks(2, -16777217, -16777216);
        marks(2, -16777219, -16777220);
        // The limit of 500000 binds more and times, not what is PUT.
        marks(2, 8000016, 8000016);
        marks(2, 2147483583, 2147483520);
        marks(2, 2147483584, Integer.MAX_VALUE);
        marks(2, Integer.MAX_VALUE, Integer.MAX_VALUE);
        marks(2, Integer.MIN_VALUE, Integer.MIN_VALUE);
    }

    private static void promise5MarkPutsLamps() {
        marks(3, 0, 0);
        marks(3, 1, 1);
        marks(3, 2, 1);
        marks(3, 256, 1);
        marks(3, -1, 1);
        marks(3, Integer.MIN_VALUE, 1);
        KeeperRolls x = hung(3, 1);
        x.mark(3, 0, 5);
        CHECK.tells("mark of 0 on a lit lamp", x, x.mark(3, 0, 0), 0);
    }

    private static void promise5MarkRefuses() {
        for (int roll : WRONG_ROLLS) {
            KeeperRolls x = new KeeperRolls();
            CHECK.refused("mark of roll " + roll, x, 0, x.mark(roll, 0, 5), 1);
        }
        for (int roll = 0; roll < 5; roll++) {
            KeeperRolls x = new KeeperRolls();
            CHECK.refused("mark of none", x, 0, x.mark(roll, -1, 5), 2);
            x.hang(roll, 1);
            x.size(roll);
            CHECK.refused("mark(1)", x, 1, x.mark(roll, 1, 5), 3);
            CHECK.refused("mark(-1)", x, 1, x.mark(roll, -1, 5), 3);
            CHECK.tells("read after refusals", x, x.read(roll, 0), 0);
            x.hang(roll, 2);
            CHECK.tells("read of a cell that was refused", x, x.read(roll, 1), 0);
        }
    }

    private static void promise8SizeTells() {
        for (int roll = 0; roll < 5; roll++) {
            KeeperRolls x = hung(roll, 200);
            CHECK.tells("size", x, x.size(roll), 200);
            x.hang(roll, roll);
            CHECK.tells("size anew", x, x.size(roll), roll);
            x.hang(roll, 0);
            CHECK.tells("size of no cells", x, x.size(roll), 0);
        }
    }

    private static void promise8SizeRefuses() {
        KeeperRolls x = hung(0, 7);
        x.size(0);
        for (int roll : WRONG_ROLLS) {
            CHECK.refused("size(" + roll + ")", x, 7, x.size(roll), 1);
        }
        CHECK.refused("size of none", x, 7, x.size(1), 2);
        x.tear(0);
        CHECK.refused("size of a torn roll", x, 7, x.size(0), 2);
    }
}
