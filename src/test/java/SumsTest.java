/** Promises 6 and 7: more and times. */
public final class SumsTest {
    private static final int[] WRONG_ROLLS = {-1, 5, Integer.MIN_VALUE, Integer.MAX_VALUE};
    private static final int LEAST = Integer.MIN_VALUE;
    private static final int GREATEST = Integer.MAX_VALUE;
    private static final Check CHECK = new Check();

    public static void main(String[] args) {
        promise6MoreOfIntegers();
        promise6MoreOfGlass();
        promise6MoreOfLamps();
        promise7TimesOfIntegers();
        promise7TimesOfGlass();
        promise7TimesOfLamps();
        refusals();
        CHECK.done();
    }

    private static KeeperRolls marked(int roll, int v) {
        KeeperRolls x = new KeeperRolls();
        x.hang(roll, 3);
        x.mark(roll, 1, v);
        return x;
    }

    private static void more(int roll, int first, int v, int want) {
        KeeperRolls x = marked(roll, first);
        CHECK.tells("more(" + roll + ", 1, " + v + ") of " + first, x, x.more(roll, 1, v), want);
        onlyCellOneIs(x, roll, want);
    }

    private static void times(int roll, int first, int v, int want) {
        KeeperRolls x = marked(roll, first);
        CHECK.tells("times(" + roll + ", 1, " + v + ") of " + first, x, x.times(roll, 1, v), want);
        onlyCellOneIs(x, roll, want);
    }

    private static void onlyCellOneIs(KeeperRolls x, int roll, int want) {
        CHECK.tells("read(" + roll + ", 0)", x, x.read(roll, 0), 0);
        CHECK.tells("read(" + roll + ", 1)", x, x.read(roll, 1), want);
        CHECK.tells("read(" + roll + ", 2)", x, x.read(roll, 2), 0);
    }

    private static void promise6MoreOfIntegers() {
        more(0, 4464, 333, 4797);
        more(0, 65535, 1, 0);
        more(0, 0, -1, 65535);
        more(0, 65535, GREATEST, 65534);
        more(0, 5, LEAST, 5);
        more(1, 32767, 1, -32768);
        more(1, -32768, -1, 32767);
        more(1, 100, 65536, 100);
        more(1, 32767, GREATEST, 32766);
        more(4, 127, 1, -128);
        more(4, -128, -1, 127);
        more(4, 100, 100, -56);
        more(4, 1, GREATEST, 0);
    }

    private static void promise6MoreOfGlass() {
        more(2, 5, 6, 11);
        more(2, 5, -6, -1);
        more(2, 7999999, 1, 8000000);
        more(2, 8000000, 1, 8000000);
        more(2, -7999999, -1, -8000000);
        more(2, -8000000, -1, -8000000);
        more(2, 0, GREATEST, 8000000);
        more(2, 0, LEAST, -8000000);
        more(2, 8000000, -16000000, -8000000);
        // What was PUT beyond the limit comes back to it with the next sum.
        more(2, GREATEST, 0, 8000000);
        more(2, LEAST, 0, -8000000);
        more(2, 16777216, -16777215, 1);
        // v / 16 is a real of 4 bytes ahead of the sum: 16777217 is 16777216 there.
        more(2, 16777220, -16777217, 4);
        more(2, GREATEST, -GREATEST, 0);
        more(2, GREATEST, LEAST, 0);
    }

    private static void promise6MoreOfLamps() {
        more(3, 0, 1, 1);
        more(3, 1, 1, 0);
        more(3, 0, 2, 0);
        more(3, 1, 2, 1);
        more(3, 1, 0, 1);
        more(3, 0, -1, 1);
        more(3, 1, -3, 0);
        more(3, 0, LEAST, 0);
        more(3, 0, GREATEST, 1);
    }

    private static void promise7TimesOfIntegers() {
        times(0, 4797, 3, 14391);
        times(0, 65535, 65535, 1);
        times(0, 1, -1, 65535);
        times(0, 65535, GREATEST, 1);
        times(0, 7, 0, 0);
        times(1, 300, 300, 24464);
        times(1, -32768, -1, -32768);
        times(1, -3, 5, -15);
        times(1, 256, 128, -32768);
        times(1, 3, LEAST, 0);
        times(4, 16, 16, 0);
        times(4, -128, -1, -128);
        times(4, -11, 11, -121);
        times(4, 3, GREATEST, -3);
    }

    private static void promise7TimesOfGlass() {
        times(2, 5, 6, 30);
        times(2, -5, 6, -30);
        times(2, 5, 0, 0);
        times(2, 0, LEAST, 0);
        times(2, -5, 0, 0);
        times(2, 1, 8000000, 8000000);
        times(2, 1, 8000001, 8000000);
        times(2, 1, -8000000, -8000000);
        times(2, 1, -8000001, -8000000);
        times(2, 1, GREATEST, 8000000);
        times(2, GREATEST, GREATEST, 8000000);
        times(2, GREATEST, LEAST, -8000000);
        times(2, LEAST, LEAST, 8000000);
        times(2, GREATEST, 1, 8000000);
        times(2, LEAST, 1, -8000000);
        times(2, LEAST, 0, 0);
    }

    private static void promise7TimesOfLamps() {
        times(3, 1, 0, 0);
        times(3, 0, 0, 0);
        times(3, 1, 1, 1);
        times(3, 1, 2, 1);
        times(3, 1, 256, 1);
        times(3, 1, LEAST, 1);
        times(3, 0, 5, 0);
    }

    private static void refusals() {
        for (int roll : WRONG_ROLLS) {
            KeeperRolls x = new KeeperRolls();
            CHECK.refused("more of roll " + roll, x, 0, x.more(roll, -1, 5), 1);
            CHECK.refused("times of roll " + roll, x, 0, x.times(roll, -1, 5), 1);
        }
        for (int roll = 0; roll < 5; roll++) {
            KeeperRolls x = new KeeperRolls();
            CHECK.refused("more of none", x, 0, x.more(roll, -1, 5), 2);
            CHECK.refused("times of none", x, 0, x.times(roll, -1, 5), 2);
            x = marked(roll, 1);
            for (int i : new int[] {-1, 3, LEAST, GREATEST}) {
                CHECK.refused("more of cell " + i, x, 1, x.more(roll, i, 5), 3);
                CHECK.refused("times of cell " + i, x, 1, x.times(roll, i, 0), 3);
            }
            onlyCellOneIs(x, roll, 1);
        }
    }
}
