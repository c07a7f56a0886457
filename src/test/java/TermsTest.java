/** The Terms: the range of each roll's cells, the WHOLE of a cell, to PUT an int, and whose the memory is. */
public final class TermsTest {
    private static final int LETTERS = 0;
    private static final int DEPTHS = 1;
    private static final int GLASS = 2;
    private static final int LAMPS = 3;
    private static final int NOTCHES = 4;
    private static final int LEAST = Integer.MIN_VALUE;
    private static final int GREATEST = Integer.MAX_VALUE;
    private static final Check CHECK = new Check();

    public static void main(String[] args) {
        lettersHaveTwoBytesWithoutASign();
        depthsHaveTwoBytesWithASign();
        notchesHaveOneByteWithASign();
        lampsAreTruths();
        glassIsRealsOfFourBytes();
        noneHangsAtFirst();
        wholeIsTheNumber();
        wholeOfLampsIsOneOrZero();
        wholeOfGlassIsSixteenTimesItsReal();
        wholeOfGlassStopsAtTheGreatestInt();
        wholeOfGlassReachesTheLeastInt();
        putTakesTheLowestBytes();
        putToLampsAsksWhetherItIsNotZero();
        putToGlassTakesTheNearest();
        putToGlassTakesTheEvenOneOfTwo();
        memoryIsTheObjectsOwn();
        memoryOfEachRollIsItsOwn();
        anObjectLastsForItsCalls();
        CHECK.done();
    }

    /** What is told after v is PUT, and read once more. */
    private static void put(int roll, int v, int want) {
        KeeperRolls x = new KeeperRolls();
        x.hang(roll, 1);
        CHECK.tells("mark(" + roll + ", 0, " + v + ")", x, x.mark(roll, 0, v), want);
        x.size(roll);
        CHECK.tells("read after mark(" + roll + ", 0, " + v + ")", x, x.read(roll, 0), want);
    }

    private static void lettersHaveTwoBytesWithoutASign() {
        CHECK.sentence("Terms: 0 LETTERS, cells of 2 bytes without a sign");
        put(LETTERS, 0, 0);
        put(LETTERS, 32767, 32767);
        put(LETTERS, 32768, 32768);
        put(LETTERS, 65535, 65535);
        put(LETTERS, 65536, 0);
        put(LETTERS, -1, 65535);
    }

    private static void depthsHaveTwoBytesWithASign() {
        CHECK.sentence("Terms: 1 DEPTHS, of 2 bytes with a sign");
        put(DEPTHS, 32767, 32767);
        put(DEPTHS, 32768, -32768);
        put(DEPTHS, -32768, -32768);
        put(DEPTHS, -32769, 32767);
        put(DEPTHS, 65535, -1);
        put(DEPTHS, 65536, 0);
    }

    private static void notchesHaveOneByteWithASign() {
        CHECK.sentence("Terms: 4 NOTCHES, of 1 byte with a sign");
        put(NOTCHES, 127, 127);
        put(NOTCHES, 128, -128);
        put(NOTCHES, -128, -128);
        put(NOTCHES, -129, 127);
        put(NOTCHES, 255, -1);
        put(NOTCHES, 256, 0);
    }

    private static void lampsAreTruths() {
        CHECK.sentence("Terms: 3 LAMPS, truths");
        KeeperRolls x = new KeeperRolls();
        x.hang(LAMPS, 1);
        x.mark(LAMPS, 0, 7);
        CHECK.tells("a lamp marked 7 is no more than lit", x, x.more(LAMPS, 0, 1), 0);
    }

    private static void glassIsRealsOfFourBytes() {
        CHECK.sentence("Terms: 2 GLASS, reals of 4 bytes");
        put(GLASS, 16777215, 16777215);
        put(GLASS, 16777216, 16777216);
        put(GLASS, 16777217, 16777216);
        put(GLASS, 33554430, 33554430);
        put(GLASS, 33554433, 33554432);
    }

    private static void noneHangsAtFirst() {
        CHECK.sentence("Terms: None hangs at first");
        for (int roll = 0; roll < 5; roll++) {
            CHECK.due("size(" + roll + ") at first", new KeeperRolls().size(roll), 2);
        }
    }

    private static void wholeIsTheNumber() {
        CHECK.sentence("Terms: The WHOLE of a cell is its number");
        put(LETTERS, 40000, 40000);
        put(DEPTHS, -25536, -25536);
        put(NOTCHES, -77, -77);
        put(NOTCHES, 77, 77);
    }

    private static void wholeOfLampsIsOneOrZero() {
        CHECK.sentence("Terms: of LAMPS 1 or 0");
        put(LAMPS, 1, 1);
        put(LAMPS, 77, 1);
        put(LAMPS, -1, 1);
        put(LAMPS, 0, 0);
    }

    private static void wholeOfGlassIsSixteenTimesItsReal() {
        // Every real that calls can make is a whole number of sixteenths, so "towards 0" has nothing to cut off.
        CHECK.sentence("Terms: of GLASS 16 times its real, towards 0");
        for (int v = -33; v <= 33; v++) {
            put(GLASS, v, v);
        }
        put(GLASS, 8000001, 8000001);
        put(GLASS, -8000001, -8000001);
    }

    private static void wholeOfGlassStopsAtTheGreatestInt() {
        CHECK.sentence("Terms: (2147483647, if that is above)");
        put(GLASS, 2147483520, 2147483520);
        put(GLASS, 2147483583, 2147483520);
        put(GLASS, 2147483584, GREATEST);
        put(GLASS, GREATEST, GREATEST);
    }

    private static void wholeOfGlassReachesTheLeastInt() {
        CHECK.sentence("Terms: of GLASS 16 times its real, at the other end");
        put(GLASS, -2147483520, -2147483520);
        put(GLASS, -2147483583, -2147483520);
        put(GLASS, -2147483584, LEAST);
        put(GLASS, LEAST, LEAST);
    }

    private static void putTakesTheLowestBytes() {
        CHECK.sentence("Terms: To PUT an int v: its lowest bytes");
        put(LETTERS, 0x7654fedc, 0xfedc);
        put(LETTERS, GREATEST, 0xffff);
        put(LETTERS, LEAST, 0);
        put(DEPTHS, 0x7654fedc, 0xfedc - 0x10000);
        put(DEPTHS, 0x7ace1234, 0x1234);
        put(DEPTHS, GREATEST, -1);
        put(DEPTHS, LEAST, 0);
        put(NOTCHES, 0x7654fedc, 0xdc - 0x100);
        put(NOTCHES, 0x7acef876, 0x76);
        put(NOTCHES, GREATEST, -1);
        put(NOTCHES, LEAST, 0);
    }

    private static void putToLampsAsksWhetherItIsNotZero() {
        CHECK.sentence("Terms: LAMPS: whether v is not 0");
        for (int v : new int[] {1, 2, -1, -2, 256, 65536, 1 << 30, LEAST, GREATEST}) {
            put(LAMPS, v, 1);
        }
        put(LAMPS, 0, 0);
        KeeperRolls x = new KeeperRolls();
        x.hang(LAMPS, 1);
        x.mark(LAMPS, 0, 1);
        CHECK.tells("mark of 0 on a lit lamp", x, x.mark(LAMPS, 0, 0), 0);
    }

    private static void putToGlassTakesTheNearest() {
        CHECK.sentence("Terms: v / 16 as a real of 4 bytes (the nearest one");
        put(GLASS, 33554433, 33554432);
        put(GLASS, 33554435, 33554436);
        put(GLASS, -33554433, -33554432);
        put(GLASS, -33554435, -33554436);
        put(GLASS, 1073741824 + 65, 1073741824 + 128);
        put(GLASS, 1073741824 + 63, 1073741824);
    }

    private static void putToGlassTakesTheEvenOneOfTwo() {
        CHECK.sentence("Terms: of two the even one)");
        put(GLASS, 16777217, 16777216);
        put(GLASS, 16777219, 16777220);
        put(GLASS, -16777217, -16777216);
        put(GLASS, -16777219, -16777220);
        put(GLASS, 33554434, 33554432);
        put(GLASS, 33554438, 33554440);
        put(GLASS, 1073741824 + 64, 1073741824);
        put(GLASS, 1073741824 + 192, 1073741824 + 256);
    }

    private static void memoryIsTheObjectsOwn() {
        CHECK.sentence("Terms: All memory is the class's own");
        KeeperRolls x = new KeeperRolls();
        KeeperRolls other = new KeeperRolls();
        for (int roll = 0; roll < 5; roll++) {
            x.hang(roll, 1);
            CHECK.due("another object's size(" + roll + ")", other.size(roll), 2);
            other.hang(roll, 1);
            x.mark(roll, 0, 1);
            CHECK.due("another object's told()", other.told(), 0);
            CHECK.tells("another object's read(" + roll + ", 0)", other, other.read(roll, 0), 0);
        }
        x.board(1, 1);
        CHECK.due("another object's count(1)", other.count(1), -1);
        other.board(1, 1);
        x.peg(0, 0, 5);
        CHECK.tells("another object's look(0, 0)", other, other.look(0, 0), 0);
        x.take(0);
        CHECK.due("another object's count(2)", other.count(2), 0);
    }

    private static void memoryOfEachRollIsItsOwn() {
        CHECK.sentence("Terms: ROLLS, each with cells of its own");
        for (int marked = 0; marked < 5; marked++) {
            KeeperRolls x = new KeeperRolls();
            for (int roll = 0; roll < 5; roll++) {
                x.hang(roll, 2);
            }
            x.board(2, 2);
            x.mark(marked, 1, 1);
            for (int roll = 0; roll < 5; roll++) {
                CHECK.tells("read(" + roll + ", 1) when roll " + marked + " is marked", x, x.read(roll, 1),
                    roll == marked ? 1 : 0);
            }
            CHECK.tells("look(1, 1) when roll " + marked + " is marked", x, x.look(1, 1), 0);
        }
    }

    private static void anObjectLastsForItsCalls() {
        CHECK.sentence("What it is: An object is used for at most 512 calls after it has been made");
        KeeperRolls x = new KeeperRolls();
        for (int round = 0; round < 102; round++) {
            CHECK.due("hang in round " + round, x.hang(round % 5, 200), 0);
            CHECK.due("mark in round " + round, x.mark(round % 5, 199, 1), 0);
            CHECK.due("board in round " + round, x.board(40, 40), 0);
            CHECK.due("peg in round " + round, x.peg(39, 39, round), 0);
            CHECK.due("take in round " + round, x.take(39), 0);
        }
        CHECK.due("count(2), the 511th call", x.count(2), 1);
        CHECK.due("told(), the 512th call", x.told(), 101);
    }
}
