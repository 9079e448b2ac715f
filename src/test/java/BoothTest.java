/** Promises 1 to 9 and 55: LEVERS, OFFICES, STRAPS and ROWS, and the counts. */
public final class BoothTest {
    private static final int NONE = LeverCurtain.NONE;

    public static void main(String[] args) {
        sizes();
        freshCounts();
        offices();
        straps();
        rowsThatMayBe();
        oneLeverHeld();
        proofs();
        needs();
        orders();
        counts();
        Due.end();
    }

    private static void sizes() {
        int[][] asked = {{Integer.MIN_VALUE, 2}, {-1, 2}, {1, 2}, {2, 2}, {3, 3}, {15, 15}, {16, 16}, {17, 16},
            {Integer.MAX_VALUE, 16}};
        for (int[] pair : asked) {
            Due.is(pair[1], new LeverCurtain(pair[0]).count(7), "count(7) of " + pair[0] + " levers");
        }
    }

    private static void freshCounts() {
        LeverCurtain x = new LeverCurtain(5);
        long[] want = {0, 0, 0, 0, 0, 0, NONE, 5, 0};
        for (int what = 0; what < want.length; what++) {
            Due.is(want[what], x.count(what), "fresh count(" + what + ")");
        }
        Due.is(LeverCurtain.HIDDEN, x.count(9), "count(9)");
        Due.is(LeverCurtain.HIDDEN, x.count(-1), "count(-1)");
        Due.is(LeverCurtain.HIDDEN, x.count(Integer.MIN_VALUE), "count of the least number");
        Due.is(32, x.rows(), "fresh rows");
        Due.is(NONE, x.proof(0), "fresh proof(0)");
        Due.is(NONE, x.proof(1), "fresh proof(1)");
        Due.is(0, x.need(), "fresh need");
        Due.is(NONE, x.unstrap(), "fresh unstrap");
        Due.is(NONE, x.wins(0), "fresh wins");
        Due.is(NONE, x.elected(), "fresh elected");
    }

    private static void offices() {
        LeverCurtain x = new LeverCurtain(7);
        Due.is(NONE, x.office(0, 1), "office of no levers");
        Due.is(NONE, x.office(-1, 1), "office of levers below 0");
        Due.is(NONE, x.office(128, 1), "office of lever 7");
        Due.is(NONE, x.office(1 | 1 << 30, 1), "office with a lever far out");
        Due.is(NONE, x.office(3, 0), "K 0");
        Due.is(NONE, x.office(3, -1), "K -1");
        Due.is(NONE, x.office(3, 3), "K above its levers");
        Due.is(0, x.count(0), "count(0) after refusals");
        Due.is(0, x.office(3, 2), "the first office");
        Due.is(NONE, x.office(6, 1), "office with another's lever");
        Due.is(1, x.office(4, 1), "the second office");
        Due.is(2, x.office(8, 1), "the third office");
        Due.is(3, x.office(16, 1), "the fourth office");
        Due.is(4, x.office(32, 1), "the fifth office");
        LeverCurtain y = new LeverCurtain(8);
        for (int i = 0; i < 6; i++) {
            Due.is(i, y.office(1 << i, 1), "office " + i);
        }
        Due.is(NONE, y.office(64, 1), "a seventh office");
        Due.is(6, y.count(0), "count(0) of six");
    }

    private static void straps() {
        LeverCurtain x = new LeverCurtain(4);
        Due.is(NONE, x.strap(0, 0), "strap of no levers");
        Due.is(NONE, x.strap(16, 1), "strap of lever 4");
        Due.is(NONE, x.strap(-4, 1), "strap of levers below 0");
        Due.is(NONE, x.strap(3, -1), "most -1");
        Due.is(NONE, x.strap(3, 3), "most above its levers");
        Due.is(0, x.strap(3, 2), "most as many as there are");
        for (int i = 1; i < 10; i++) {
            Due.is(i, x.strap(15, 0), "strap " + i);
        }
        Due.is(NONE, x.strap(15, 0), "an eleventh strap");
        Due.is(10, x.count(1), "count(1) of ten");
        Due.is(1, x.rows(), "rows with straps that let nothing");
        for (int left = 9; left >= 0; left--) {
            Due.is(left, x.unstrap(), "unstrap");
        }
        Due.is(NONE, x.unstrap(), "unstrap of none");
        Due.is(16, x.rows(), "rows with no strap again");
        Due.is(0, x.strap(12, 1), "a strap after all went");
        Due.is(12, x.rows(), "rows with it");
    }

    private static void rowsThatMayBe() {
        LeverCurtain x = new LeverCurtain(4);
        x.office(7, 2);
        x.strap(6, 1);
        int[] let = {1, 1, 1, 1, 1, 1, 0, 0, 1, 1, 1, 1, 1, 1, 0, 0};
        int[] lawful = {1, 1, 1, 1, 1, 1, 1, 0, 1, 1, 1, 1, 1, 1, 1, 0};
        for (int row = 0; row < 16; row++) {
            Due.is(let[row], x.may(row, 0), "may(" + row + ", 0)");
            Due.is(lawful[row], x.may(row, 1), "may(" + row + ", 1)");
        }
        Due.is(NONE, x.may(16, 0), "may of no row");
        Due.is(NONE, x.may(-1, 1), "may of a row below 0");
        Due.is(NONE, x.may(0, 2), "may of no what");
        Due.is(NONE, x.may(0, -1), "may of no what");
        Due.is(12, x.rows(), "rows");
        Due.is(NONE, x.proof(0), "nothing beats");
        Due.is(6, x.proof(1), "barred");
    }

    private static void oneLeverHeld() {
        LeverCurtain x = new LeverCurtain(2);
        x.strap(1, 0);
        Due.is(0, x.may(1, 0), "a strap on lever 0 alone");
        Due.is(2, x.rows(), "rows with it");
        Due.is(1, x.proof(1), "barred by it");
    }

    private static void proofs() {
        LeverCurtain x = new LeverCurtain(16);
        x.office(0b111, 1);
        Due.is(3, x.proof(0), "beats with no strap");
        Due.is(NONE, x.proof(1), "barred with no strap");
        x.strap(0b011, 1);
        Due.is(5, x.proof(0), "beats with one strap");
        x.strap(0b110, 1);
        Due.is(5, x.proof(0), "beats with two straps");
        x.strap(0b101, 1);
        Due.is(NONE, x.proof(0), "beats with all pairs held");
        Due.is(NONE, x.proof(1), "barred with all pairs held");
        x.strap(1 << 15, 0);
        Due.is(1 << 15, x.proof(1), "barred by a strap on no office");
        x.office(1 << 14 | 1 << 13, 1);
        Due.is(3 << 13, x.proof(0), "beats by a new office");
        Due.is(NONE, x.proof(2), "no such proof");
        Due.is(NONE, x.proof(-1), "no such proof");
        x.unstrap();
        Due.is(NONE, x.proof(1), "barred no more");
        Due.is(1 << 15, x.rows(), "half of all rows (4 of 8 with three levers)");
    }

    private static void needs() {
        LeverCurtain x = new LeverCurtain(6);
        x.strap(0b000011, 2);
        Due.is(0, x.need(), "a strap that holds nothing");
        x.strap(0b000111, 1);
        x.strap(0b000011, 1);
        Due.is(0b010, x.need(), "one within another");
        x.strap(0b000111, 1);
        Due.is(0b0010, x.need(), "of two alike the lower");
        x.strap(0b111000, 0);
        Due.is(0b10010, x.need(), "two apart");
        x.strap(0b111111, 1);
        Due.is(0b10010, x.need(), "one that the others make needless");
        LeverCurtain y = new LeverCurtain(3);
        y.strap(0b011, 1);
        y.strap(0b101, 1);
        y.strap(0b110, 1);
        Due.is(0b111, y.need(), "all three pairs");
        y.strap(0b111, 1);
        Due.is(0b1000, y.need(), "one for three, though it is the latest");
        y.strap(0b111, 0);
        Due.is(0b10000, y.need(), "one for all");
        y.unstrap();
        y.unstrap();
        Due.is(0b111, y.need(), "the three again");
    }

    private static void orders() {
        LeverCurtain x = new LeverCurtain(16);
        Due.is(1, x.orders(0), "orders of none");
        Due.is(1, x.orders(8), "orders of one");
        Due.is(6, x.orders(0b10101), "orders of three");
        Due.is(3628800, x.orders(0b1111111111), "orders of ten");
        Due.is(NONE, x.orders(0b11111111111), "orders of eleven");
        Due.is(NONE, x.orders(1 << 16), "orders of no row");
        Due.is(NONE, x.orders(-1), "orders of a row below 0");
        x.strap(0b111, 2);
        Due.is(2, x.orders(0b110), "orders that the strap lets");
        Due.is(0, x.orders(0b111), "orders that stick");
        Due.is(0, x.orders(0b1111), "orders that stick with one more");
        Due.is(NONE, x.orders(0b11111111111), "orders of eleven that stick");
    }

    private static void counts() {
        LeverCurtain x = new LeverCurtain(4);
        x.office(1, 1);
        x.strap(1, 1);
        x.strap(1, 1);
        for (int i = 0; i < 3; i++) {
            Due.tape(x, "y:" + i);
            x.law();
        }
        x.use(2);
        for (int i = 0; i < 4; i++) {
            x.machine(1, 1, 1, 1, 1);
        }
        for (int i = 0; i < 5; i++) {
            x.test(1, 1);
        }
        for (int i = 0; i < 6; i++) {
            Due.tape(x, "ab" + (char) ('a' + i));
            x.known();
        }
        Due.tape(x, "seven..");
        long[] want = {1, 2, 3, 4, 5, 7, 2, 4, 6};
        for (int what = 0; what < want.length; what++) {
            Due.is(want[what], x.count(what), "count(" + what + ")");
        }
    }
}
