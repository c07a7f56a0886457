/** Promises 6 and 7: more and times. */
public final class SumsTest {
    private static final int LETTERS = 0;
    private static final int DEPTHS = 1;
    private static final int GLASS = 2;
    private static final int LAMPS = 3;
    private static final int NOTCHES = 4;
    private static final int LEAST = Integer.MIN_VALUE;
    private static final int GREATEST = Integer.MAX_VALUE;
    private static final int[] WRONG_ROLLS = {-1, 5, LEAST, GREATEST};
    /** 500000 in sixteenths. */
    private static final int LIMIT = 8000000;
    private static final Check CHECK = new Check();

    public static void main(String[] args) {
        moreIsTheSum();
        moreKeepsTheLowestBytesOfLetters();
        moreKeepsTheLowestBytesOfDepths();
        moreKeepsTheLowestBytesOfNotches();
        moreTurnsLampsIfOdd();
        moreLeavesLampsIfEven();
        moreOfGlassIsTheSum();
        moreOfGlassMakesItsPartARealAhead();
        moreOfGlassStopsAtTheLimit();
        moreOfGlassStopsAtTheLimitBelowZero();
        moreOfGlassBringsBackWhatWasPutBeyond();
        moreOfTheFirstAndTheLastCell();
        moreRefuses();
        timesIsTheProduct();
        timesKeepsTheLowestBytesOfLetters();
        timesKeepsTheLowestBytesOfDepths();
        timesKeepsTheLowestBytesOfNotches();
        timesZeroMakesLampsDark();
        timesAnotherLeavesLamps();
        timesOfGlassIsTheProduct();
        timesOfGlassStopsAtTheLimit();
        timesOfGlassStopsAtTheLimitBelowZero();
        timesOfGlassBringsBackWhatWasPutBeyond();
        timesOfTheFirstAndTheLastCell();
        timesRefuses();
        CHECK.done();
    }

    private static KeeperRolls marked(int roll, int v) {
        KeeperRolls x = new KeeperRolls();
        x.hang(roll, 3);
        x.mark(roll, 1, v);
        x.size(roll);
        return x;
    }

    private static void more(int roll, int first, int v, int want) {
        KeeperRolls x = marked(roll, first);
        CHECK.tells("more(" + roll + ", 1, " + v + ") of " + first, x, x.more(roll, 1, v), want);
        onlyCellOneIs(x, roll, want);
    }

    private static void times(int roll, int first, int v, int want) {
        KeeperRolls x = marked(roll, first);
        CHECK.tells("times(" + roll + ", 1, " + v + ") of " + first, x, x.times(roll, 1, v), want);
        onlyCellOneIs(x, roll, want);
    }

    private static void onlyCellOneIs(KeeperRolls x, int roll, int want) {
        CHECK.tells("read(" + roll + ", 0)", x, x.read(roll, 0), 0);
        CHECK.tells("read(" + roll + ", 1)", x, x.read(roll, 1), want);
        CHECK.tells("read(" + roll + ", 2)", x, x.read(roll, 2), 0);
    }

    private static void moreIsTheSum() {
        CHECK.sentence("Promise 6: Cell i is v more");
        more(LETTERS, 4464, 333, 4797);
        more(LETTERS, 4464, -333, 4131);
        more(DEPTHS, -5, 3, -2);
        more(DEPTHS, 5, -8, -3);
        more(NOTCHES, -5, 3, -2);
        more(NOTCHES, 5, 0, 5);
    }

    private static void moreKeepsTheLowestBytesOfLetters() {
        CHECK.sentence("Promise 6: the sum's lowest bytes (LETTERS)");
        more(LETTERS, 65534, 1, 65535);
        more(LETTERS, 65535, 1, 0);
        more(LETTERS, 0, -1, 65535);
        more(LETTERS, 7, 65536, 7);
        more(LETTERS, 65535, GREATEST, 65534);
        more(LETTERS, 1, GREATEST, 0);
        more(LETTERS, 5, LEAST, 5);
    }

    private static void moreKeepsTheLowestBytesOfDepths() {
        CHECK.sentence("Promise 6: the sum's lowest bytes (DEPTHS)");
        more(DEPTHS, 32766, 1, 32767);
        more(DEPTHS, 32767, 1, -32768);
        more(DEPTHS, -32768, -1, 32767);
        more(DEPTHS, 100, 65536, 100);
        more(DEPTHS, 32767, GREATEST, 32766);
        more(DEPTHS, -1, LEAST, -1);
    }

    private static void moreKeepsTheLowestBytesOfNotches() {
        CHECK.sentence("Promise 6: the sum's lowest bytes (NOTCHES)");
        more(NOTCHES, 126, 1, 127);
        more(NOTCHES, 127, 1, -128);
        more(NOTCHES, -128, -1, 127);
        more(NOTCHES, 100, 256, 100);
        more(NOTCHES, 1, GREATEST, 0);
        more(NOTCHES, -1, LEAST, -1);
    }

    private static void moreTurnsLampsIfOdd() {
        CHECK.sentence("Promise 6: of LAMPS turned, if v is odd");
        for (int v : new int[] {1, 3, -1, -3, 65537, GREATEST, LEAST + 1}) {
            more(LAMPS, 0, v, 1);
            more(LAMPS, 1, v, 0);
        }
    }

    private static void moreLeavesLampsIfEven() {
        CHECK.sentence("Promise 6: turned only if v is odd");
        for (int v : new int[] {0, 2, -2, 65536, GREATEST - 1, LEAST}) {
            more(LAMPS, 0, v, 0);
            more(LAMPS, 1, v, 1);
        }
    }

    private static void moreOfGlassIsTheSum() {
        CHECK.sentence("Promise 6: of GLASS the sum with v / 16, as a real of 4 bytes");
        more(GLASS, 5, 6, 11);
        more(GLASS, 5, -6, -1);
        more(GLASS, -5, -6, -11);
        more(GLASS, 5, 0, 5);
        more(GLASS, 0, 7654321, 7654321);
        more(GLASS, LIMIT, -1, LIMIT - 1);
        more(GLASS, -LIMIT, 1, 1 - LIMIT);
    }

    private static void moreOfGlassMakesItsPartARealAhead() {
        // Only a cell that was PUT beyond the limit lets it be seen.
        CHECK.sentence("Promise 6: (v / 16 is one ahead)");
        more(GLASS, 16777220, -16777217, 4);
        more(GLASS, 16777216, -16777219, -4);
        more(GLASS, -16777220, 16777217, -4);
        more(GLASS, -16777216, 16777219, 4);
        more(GLASS, GREATEST, -GREATEST, 0);
        more(GLASS, GREATEST, LEAST, 0);
        more(GLASS, LEAST, GREATEST, 0);
    }

    private static void moreOfGlassStopsAtTheLimit() {
        CHECK.sentence("Promise 6: one beyond 500000 is that");
        more(GLASS, LIMIT - 1, 1, LIMIT);
        more(GLASS, LIMIT - 1, 2, LIMIT);
        more(GLASS, LIMIT, 0, LIMIT);
        more(GLASS, LIMIT, 1, LIMIT);
        more(GLASS, LIMIT, LIMIT, LIMIT);
        more(GLASS, 0, GREATEST, LIMIT);
        more(GLASS, GREATEST, GREATEST, LIMIT);
        KeeperRolls x = marked(GLASS, LIMIT);
        x.more(GLASS, 1, 100);
        CHECK.tells("more of -1 at the limit", x, x.more(GLASS, 1, -1), LIMIT - 1);
    }

    private static void moreOfGlassStopsAtTheLimitBelowZero() {
        CHECK.sentence("Promise 6: one beyond -500000 is that");
        more(GLASS, 1 - LIMIT, -1, -LIMIT);
        more(GLASS, 1 - LIMIT, -2, -LIMIT);
        more(GLASS, -LIMIT, 0, -LIMIT);
        more(GLASS, -LIMIT, -1, -LIMIT);
        more(GLASS, LIMIT, -2 * LIMIT, -LIMIT);
        more(GLASS, LIMIT, -2 * LIMIT - 1, -LIMIT);
        more(GLASS, 0, LEAST, -LIMIT);
        more(GLASS, LEAST, LEAST, -LIMIT);
        KeeperRolls x = marked(GLASS, -LIMIT);
        x.more(GLASS, 1, -100);
        CHECK.tells("more of 1 at the limit", x, x.more(GLASS, 1, 1), 1 - LIMIT);
    }

    private static void moreOfGlassBringsBackWhatWasPutBeyond() {
        CHECK.sentence("Promise 6: one beyond 500000 or -500000 is that (after a PUT beyond)");
        more(GLASS, LIMIT + 16, 0, LIMIT);
        more(GLASS, LIMIT + 16, -15, LIMIT);
        more(GLASS, LIMIT + 16, -16, LIMIT);
        more(GLASS, LIMIT + 16, -17, LIMIT - 1);
        more(GLASS, -LIMIT - 16, 0, -LIMIT);
        more(GLASS, -LIMIT - 16, 17, 1 - LIMIT);
        more(GLASS, GREATEST, 0, LIMIT);
        more(GLASS, LEAST, 0, -LIMIT);
    }

    private static void moreOfTheFirstAndTheLastCell() {
        CHECK.sentence("Promise 6: Cell i, the first one or the last one");
        for (int roll = 0; roll < 5; roll++) {
            KeeperRolls x = new KeeperRolls();
            x.hang(roll, 200);
            CHECK.tells("more(" + roll + ", 199, 1)", x, x.more(roll, 199, 1), 1);
            CHECK.tells("read(" + roll + ", 0)", x, x.read(roll, 0), 0);
            CHECK.tells("more(" + roll + ", 0, 1)", x, x.more(roll, 0, 1), 1);
            CHECK.tells("read(" + roll + ", 198)", x, x.read(roll, 198), 0);
        }
    }

    private static void moreRefuses() {
        CHECK.sentence("Terms: 1, 2, 3 (more)");
        for (int roll : WRONG_ROLLS) {
            KeeperRolls x = new KeeperRolls();
            CHECK.refused("more(" + roll + ", 0, 1)", x, 0, x.more(roll, 0, 1), 1);
        }
        for (int roll = 0; roll < 5; roll++) {
            KeeperRolls x = new KeeperRolls();
            CHECK.refused("more(" + roll + ", 0, 1) of none", x, 0, x.more(roll, 0, 1), 2);
            x = marked(roll, 1);
            for (int i : new int[] {-1, 3, 200, LEAST, GREATEST}) {
                CHECK.refused("more(" + roll + ", " + i + ", 1)", x, 3, x.more(roll, i, 1), 3);
            }
            onlyCellOneIs(x, roll, 1);
        }
    }

    private static void timesIsTheProduct() {
        CHECK.sentence("Promise 7: Cell i is v times itself");
        times(LETTERS, 4797, 3, 14391);
        times(LETTERS, 4797, 1, 4797);
        times(LETTERS, 4797, 0, 0);
        times(DEPTHS, -3, 5, -15);
        times(DEPTHS, -3, -5, 15);
        times(DEPTHS, -3, 0, 0);
        times(NOTCHES, -11, 11, -121);
        times(NOTCHES, 11, 0, 0);
    }

    private static void timesKeepsTheLowestBytesOfLetters() {
        CHECK.sentence("Promise 7: the product's lowest bytes (LETTERS)");
        times(LETTERS, 1, -1, 65535);
        times(LETTERS, 256, 256, 0);
        times(LETTERS, 257, 255, 65535);
        times(LETTERS, 65535, 65535, 1);
        times(LETTERS, 65535, GREATEST, 1);
        times(LETTERS, 3, LEAST, 0);
    }

    private static void timesKeepsTheLowestBytesOfDepths() {
        CHECK.sentence("Promise 7: the product's lowest bytes (DEPTHS)");
        times(DEPTHS, 300, 300, 24464);
        times(DEPTHS, 256, 128, -32768);
        times(DEPTHS, -32768, -1, -32768);
        times(DEPTHS, -32768, 2, 0);
        times(DEPTHS, 32767, GREATEST, -32767);
        times(DEPTHS, 3, LEAST, 0);
    }

    private static void timesKeepsTheLowestBytesOfNotches() {
        CHECK.sentence("Promise 7: the product's lowest bytes (NOTCHES)");
        times(NOTCHES, 16, 8, -128);
        times(NOTCHES, 16, 16, 0);
        times(NOTCHES, -128, -1, -128);
        times(NOTCHES, 100, 100, 16);
        times(NOTCHES, 3, GREATEST, -3);
        times(NOTCHES, 3, LEAST, 0);
    }

    private static void timesZeroMakesLampsDark() {
        CHECK.sentence("Promise 7: of LAMPS dark, if v is 0");
        times(LAMPS, 1, 0, 0);
        times(LAMPS, 0, 0, 0);
    }

    private static void timesAnotherLeavesLamps() {
        CHECK.sentence("Promise 7: dark only if v is 0");
        for (int v : new int[] {1, 2, -1, -2, 256, 65536, LEAST, GREATEST}) {
            times(LAMPS, 1, v, 1);
            times(LAMPS, 0, v, 0);
        }
    }

    private static void timesOfGlassIsTheProduct() {
        // Where v as a real of 4 bytes is not v, each product but 0 is beyond the limit.
        CHECK.sentence("Promise 7: of GLASS the product with v, as a real of 4 bytes (v is one ahead)");
        times(GLASS, 5, 6, 30);
        times(GLASS, -5, 6, -30);
        times(GLASS, -5, -6, 30);
        times(GLASS, 5, 1, 5);
        times(GLASS, 5, 0, 0);
        times(GLASS, -5, 0, 0);
        times(GLASS, 0, 16777217, 0);
        times(GLASS, 0, GREATEST, 0);
        times(GLASS, 0, LEAST, 0);
        times(GLASS, LEAST, 0, 0);
        times(GLASS, 2, 3999999, 7999998);
        times(GLASS, 7999999, -1, -7999999);
        KeeperRolls x = marked(GLASS, -5);
        x.times(GLASS, 1, 0);
        CHECK.tells("more after a product of 0", x, x.more(GLASS, 1, 3), 3);
    }

    private static void timesOfGlassStopsAtTheLimit() {
        CHECK.sentence("Promise 7: one beyond 500000 is that");
        times(GLASS, 1, LIMIT - 1, LIMIT - 1);
        times(GLASS, 1, LIMIT, LIMIT);
        times(GLASS, 1, LIMIT + 1, LIMIT);
        times(GLASS, LIMIT, 1, LIMIT);
        times(GLASS, LIMIT, 2, LIMIT);
        times(GLASS, -LIMIT, -2, LIMIT);
        times(GLASS, 1, GREATEST, LIMIT);
        times(GLASS, -1, LEAST, LIMIT);
        times(GLASS, GREATEST, GREATEST, LIMIT);
        times(GLASS, LEAST, LEAST, LIMIT);
    }

    private static void timesOfGlassStopsAtTheLimitBelowZero() {
        CHECK.sentence("Promise 7: one beyond -500000 is that");
        times(GLASS, 1, 1 - LIMIT, 1 - LIMIT);
        times(GLASS, 1, -LIMIT, -LIMIT);
        times(GLASS, 1, -LIMIT - 1, -LIMIT);
        times(GLASS, LIMIT, -1, -LIMIT);
        times(GLASS, LIMIT, -2, -LIMIT);
        times(GLASS, -LIMIT, 2, -LIMIT);
        times(GLASS, 1, LEAST, -LIMIT);
        times(GLASS, -1, GREATEST, -LIMIT);
        times(GLASS, GREATEST, LEAST, -LIMIT);
    }

    private static void timesOfGlassBringsBackWhatWasPutBeyond() {
        CHECK.sentence("Promise 7: one beyond 500000 or -500000 is that (after a PUT beyond)");
        times(GLASS, LIMIT + 16, 1, LIMIT);
        times(GLASS, LIMIT + 16, -1, -LIMIT);
        times(GLASS, -LIMIT - 16, 1, -LIMIT);
        times(GLASS, -LIMIT - 16, -1, LIMIT);
        times(GLASS, GREATEST, 1, LIMIT);
        times(GLASS, LEAST, 1, -LIMIT);
        times(GLASS, GREATEST, 0, 0);
    }

    private static void timesOfTheFirstAndTheLastCell() {
        CHECK.sentence("Promise 7: Cell i, the first one or the last one");
        for (int roll = 0; roll < 5; roll++) {
            KeeperRolls x = new KeeperRolls();
            x.hang(roll, 200);
            x.mark(roll, 0, 1);
            x.mark(roll, 199, 1);
            CHECK.tells("times(" + roll + ", 199, 0)", x, x.times(roll, 199, 0), 0);
            CHECK.tells("read(" + roll + ", 0)", x, x.read(roll, 0), 1);
            CHECK.tells("times(" + roll + ", 0, 0)", x, x.times(roll, 0, 0), 0);
        }
    }

    private static void timesRefuses() {
        CHECK.sentence("Terms: 1, 2, 3 (times)");
        for (int roll : WRONG_ROLLS) {
            KeeperRolls x = new KeeperRolls();
            CHECK.refused("times(" + roll + ", 0, 0)", x, 0, x.times(roll, 0, 0), 1);
        }
        for (int roll = 0; roll < 5; roll++) {
            KeeperRolls x = new KeeperRolls();
            CHECK.refused("times(" + roll + ", 0, 0) of none", x, 0, x.times(roll, 0, 0), 2);
            x = marked(roll, 1);
            for (int i : new int[] {-1, 3, 200, LEAST, GREATEST}) {
                CHECK.refused("times(" + roll + ", " + i + ", 0)", x, 3, x.times(roll, i, 0), 3);
            }
            onlyCellOneIs(x, roll, 1);
        }
    }
}
