/**
 * The boundaries of the Terms 1 and of promises 1 to 9 and 55: the value just within each and the one just
 * outside it, the empty and the full one. The number before each text is that of the promise.
 */
public final class BoothEdgeTest {
    private static final int NONE = LeverCurtain.NONE;
    private static final int HIDDEN = LeverCurtain.HIDDEN;

    public static void main(String[] args) {
        leversAtLeastTwoAtMostSixteen();
        leversBoundRows();
        nothingElseAtFirst();
        officeLevers();
        officeOthersLevers();
        officeK();
        officesSix();
        strapLevers();
        strapMost();
        strapsTen();
        strapsMayShare();
        unstrapTheLatest();
        unstrapTillNone();
        letJustAsMany();
        lawfulJustK();
        mayOfWhat();
        beatsNone();
        beatsLowest();
        beatsHighest();
        barredNone();
        barredLowest();
        barredHighest();
        rowsFromOneToAll();
        needNone();
        needAll();
        needFewestFirst();
        needLowerWhereTwoDiffer();
        ordersNoneToTen();
        ordersThatStick();
        counts();
        countsWhenFull();
        Due.end();
    }

    private static void leversAtLeastTwoAtMostSixteen() {
        int[][] asked = {{Integer.MIN_VALUE, 2}, {-16, 2}, {-1, 2}, {0, 2}, {1, 2}, {2, 2}, {3, 3}, {4, 4}, {14, 14},
            {15, 15}, {16, 16}, {17, 16}, {18, 16}, {65536, 16}, {Integer.MAX_VALUE, 16}};
        for (int[] pair : asked) {
            Due.is(pair[1], new LeverCurtain(pair[0]).count(7), "1: levers of " + pair[0]);
        }
    }

    private static void leversBoundRows() {
        for (int n = 2; n <= 16; n++) {
            String of = " of " + n + " levers";
            int all = (1 << n) - 1;
            LeverCurtain x = new LeverCurtain(n);
            Due.is(1, x.may(all, 0), "5: all" + of);
            Due.is(NONE, x.may(all + 1, 0), "5: a row with one more" + of);
            Due.is(1, x.may(0, 1), "5: the empty row" + of);
            Due.is(1 << n, x.rows(), "7: all rows" + of);
            Due.is(NONE, x.office(1 << n, 1), "2: office of one more" + of);
            Due.is(NONE, x.strap(1 << n, 1), "3: strap of one more" + of);
            Due.is(NONE, x.test(all + 1, 1), "29: test with one more" + of);
            Due.is(0, x.test(all, 1), "29: test with all" + of);
            Due.is(0, x.strap(1 << n - 1, 0), "3: strap of the last" + of);
            Due.is(1 << n - 1, x.rows(), "7: half the rows" + of);
            Due.is(1 << n - 1, x.proof(1), "6: the last one" + of);
            Due.is(0, x.office(1 << n - 1, 1), "2: office of the last" + of);
            Due.is(n - 1, x.wins(0), "26: the last one" + of);
        }
    }

    private static void nothingElseAtFirst() {
        LeverCurtain x = new LeverCurtain(16);
        for (int what = 0; what < 9; what++) {
            Due.is(what == 6 ? NONE : what == 7 ? 16 : 0, x.count(what), "1: count(" + what + ") of a new object");
        }
        Due.is(0, x.fault(), "1: an empty tape");
        Due.is(NONE, x.voters(0), "1: no machine");
        Due.is(NONE, x.goes(0, 0), "1: no reading");
        Due.is(NONE, x.sees(0, 0), "1: no test");
        Due.is(NONE, x.wins(0), "1: no office");
        Due.is(NONE, x.span(0, 0, 0), "1: no span");
        Due.is(NONE, x.total(0, 0), "1: no total");
        Due.is(HIDDEN, x.ahead(0, 1), "1: none is ahead");
    }

    private static void officeLevers() {
        LeverCurtain x = new LeverCurtain(4);
        Due.is(NONE, x.office(0, 1), "2: no lever");
        Due.is(NONE, x.office(0, 0), "2: no lever, none to pull");
        Due.is(NONE, x.office(16, 1), "2: lever 4 of four");
        Due.is(NONE, x.office(17, 1), "2: levers 0 and 4 of four");
        Due.is(NONE, x.office(-1, 1), "2: all bits");
        Due.is(NONE, x.office(Integer.MIN_VALUE, 1), "2: bit 31 alone");
        Due.is(NONE, x.office(Integer.MIN_VALUE | 1, 1), "2: bit 31 and lever 0");
        Due.is(0, x.count(0), "2: none came");
        Due.is(0, x.office(8, 1), "2: lever 3 alone");
        Due.is(1, x.office(1, 1), "2: lever 0 alone");
        LeverCurtain y = new LeverCurtain(4);
        Due.is(0, y.office(15, 1), "2: all levers");
    }

    private static void officeOthersLevers() {
        LeverCurtain x = new LeverCurtain(8);
        Due.is(0, x.office(0b00000011, 1), "2: the first");
        Due.is(NONE, x.office(0b00000110, 1), "2: with one of its levers");
        Due.is(1, x.office(0b00000100, 1), "2: without it");
        Due.is(2, x.office(0b10000000, 1), "2: the third");
        Due.is(NONE, x.office(0b10001000, 1), "2: with a lever of the third");
        Due.is(NONE, x.office(0b00001001, 1), "2: with a lever of the first");
        Due.is(NONE, x.office(0b00001100, 1), "2: with a lever of the second");
        Due.is(3, x.office(0b00001000, 1), "2: what was refused is free still");
        Due.is(4, x.count(0), "2: four");
    }

    private static void officeK() {
        for (int many = 1; many <= 16; many++) {
            int levers = (1 << many) - 1;
            for (int k : new int[] {Integer.MIN_VALUE, -1, 0, many + 1, Integer.MAX_VALUE}) {
                LeverCurtain x = new LeverCurtain(16);
                Due.is(NONE, x.office(levers, k), "2: " + many + " levers, K " + k);
                Due.is(0, x.count(0), "2: none came");
                Due.is(0, x.office(levers, 1), "2: " + many + " levers, K 1");
            }
            LeverCurtain x = new LeverCurtain(16);
            Due.is(0, x.office(levers, many), "2: " + many + " levers, K as many");
            Due.is(1, x.may(levers, 1), "2: all of these are lawful");
        }
    }

    private static void officesSix() {
        LeverCurtain x = new LeverCurtain(16);
        for (int office = 0; office < 6; office++) {
            Due.is(office, x.count(0), "2: before office " + office);
            Due.is(office, x.office(3 << 2 * office, 1), "2: office " + office);
        }
        Due.is(NONE, x.office(1 << 15, 1), "2: a seventh");
        Due.is(6, x.count(0), "2: six");
        Due.is(1, x.may(1 << 15 | 1 << 14, 1), "2: the seventh is none");
        Due.is(0, x.may(3 << 10, 1), "2: the sixth holds");
    }

    private static void strapLevers() {
        LeverCurtain x = new LeverCurtain(4);
        int[] wrong = {0, 16, 17, -1, -16, Integer.MIN_VALUE, Integer.MIN_VALUE | 1, 1 << 30};
        for (int levers : wrong) {
            Due.is(NONE, x.strap(levers, 0), "3: strap of " + levers);
        }
        Due.is(0, x.count(1), "3: none came");
        Due.is(16, x.rows(), "3: nothing is held");
        Due.is(0, x.strap(1, 0), "3: lever 0 alone");
        Due.is(8, x.rows(), "3: rows without it");
        Due.is(1, x.strap(8, 0), "3: lever 3 alone");
        Due.is(4, x.rows(), "3: rows without both");
        Due.is(2, x.strap(15, 0), "3: all levers");
        Due.is(1, x.rows(), "3: the empty row");
    }

    private static void strapMost() {
        for (int many = 1; many <= 16; many++) {
            int levers = (1 << many) - 1 << 16 - many;
            LeverCurtain x = new LeverCurtain(16);
            Due.is(NONE, x.strap(levers, -1), "3: " + many + " levers, -1 of them");
            Due.is(NONE, x.strap(levers, many + 1), "3: " + many + " levers, one more of them");
            Due.is(NONE, x.strap(levers, Integer.MIN_VALUE), "3: far below");
            Due.is(NONE, x.strap(levers, Integer.MAX_VALUE), "3: far above");
            Due.is(0, x.strap(levers, many), "3: " + many + " levers, all of them");
            Due.is(1, x.may(levers, 0), "5: all of these are let");
            Due.is(1, x.strap(levers, 0), "3: " + many + " levers, none of them");
            Due.is(0, x.may(Integer.highestOneBit(levers), 0), "5: none of these is let");
            Due.is(1, x.may(65535 & ~levers, 0), "5: all others are let");
        }
    }

    private static void strapsTen() {
        LeverCurtain x = new LeverCurtain(10);
        for (int strap = 0; strap < 10; strap++) {
            Due.is(strap, x.strap(1 << strap, 0), "3: strap " + strap);
        }
        Due.is(1, x.rows(), "3: all ten hold");
        Due.is(NONE, x.strap(1, 0), "3: an eleventh");
        Due.is(10, x.count(1), "3: ten");
        Due.is(9, x.unstrap(), "4: one less");
        Due.is(2, x.rows(), "4: the tenth holds no more");
        Due.is(9, x.strap(3, 1), "3: a tenth again");
        Due.is(NONE, x.strap(1, 0), "3: an eleventh again");
    }

    private static void strapsMayShare() {
        LeverCurtain x = new LeverCurtain(3);
        Due.is(0, x.strap(3, 1), "3: the first");
        Due.is(1, x.strap(3, 1), "3: the same again");
        Due.is(2, x.strap(6, 1), "3: with a lever of theirs");
        Due.is(5, x.rows(), "7: rows that all let");
    }

    private static void unstrapTheLatest() {
        LeverCurtain x = new LeverCurtain(3);
        x.strap(1, 0);
        x.strap(2, 0);
        x.strap(4, 0);
        Due.is(2, x.unstrap(), "4: two are left");
        Due.is(0b011, x.need(), "4: the first two are left");
        Due.is(1, x.may(4, 0), "4: lever 2 is free");
        Due.is(0, x.may(2, 0), "4: lever 1 is not");
        Due.is(1, x.unstrap(), "4: one is left");
        Due.is(1, x.may(6, 0), "4: levers 1 and 2 are free");
        Due.is(0, x.may(1, 0), "4: lever 0 is not");
        Due.is(1, x.count(1), "4: one is left");
    }

    private static void unstrapTillNone() {
        LeverCurtain x = new LeverCurtain(3);
        Due.is(NONE, x.unstrap(), "4: none at first");
        Due.is(0, x.count(1), "4: none");
        Due.is(0, x.strap(7, 0), "3: the first");
        Due.is(0, x.unstrap(), "4: none is left");
        Due.is(8, x.rows(), "7: all rows again");
        Due.is(NONE, x.unstrap(), "4: none once more");
        Due.is(0, x.count(1), "4: none");
        Due.is(0, x.strap(7, 1), "3: the first again");
        Due.is(4, x.rows(), "7: rows with one lever or none");
    }

    private static void letJustAsMany() {
        LeverCurtain x = new LeverCurtain(5);
        Due.is(1, x.may(31, 0), "5: with no strap all are let");
        x.strap(0b01111, 2);
        Due.is(1, x.may(0b00011, 0), "5: just so many");
        Due.is(0, x.may(0b00111, 0), "5: one more");
        Due.is(0, x.may(0b01111, 0), "5: two more");
        Due.is(1, x.may(0b11001, 0), "5: a lever that is not of the strap");
        Due.is(1, x.may(0, 0), "5: none");
        x.strap(0b11000, 1);
        Due.is(0, x.may(0b11001, 0), "5: one more for another strap");
        Due.is(1, x.may(0b10011, 0), "5: just so many for both");
        x.strap(0b10000, 0);
        Due.is(0, x.may(0b10000, 0), "5: none of these can be pulled");
        Due.is(1, x.may(0b01100, 0), "5: just so many for all three");
        Due.is(1, x.may(31, 1), "5: with no office all are lawful");
    }

    private static void lawfulJustK() {
        LeverCurtain x = new LeverCurtain(5);
        x.office(0b00111, 2);
        Due.is(1, x.may(0b00011, 1), "5: just K");
        Due.is(0, x.may(0b00111, 1), "5: one more than K");
        Due.is(1, x.may(0b11011, 1), "5: levers of no office");
        Due.is(1, x.may(0, 1), "5: none");
        x.office(0b11000, 1);
        Due.is(0, x.may(0b11011, 1), "5: one more than the other's K");
        Due.is(1, x.may(0b10011, 1), "5: just K of both");
        Due.is(1, x.may(31, 0), "5: with no strap all are let");
    }

    private static void mayOfWhat() {
        LeverCurtain x = new LeverCurtain(2);
        x.office(3, 1);
        Due.is(1, x.may(3, 0), "5: what 0");
        Due.is(0, x.may(3, 1), "5: what 1");
        for (int what : new int[] {Integer.MIN_VALUE, -1, 2, Integer.MAX_VALUE}) {
            Due.is(NONE, x.may(3, what), "5: what " + what);
            Due.is(NONE, x.proof(what), "6: what " + what);
        }
        for (int row : new int[] {Integer.MIN_VALUE, -1, 4, 7, Integer.MAX_VALUE}) {
            Due.is(NONE, x.may(row, 0), "5: row " + row);
            Due.is(NONE, x.may(row, 1), "5: row " + row);
            Due.is(NONE, x.orders(row), "9: row " + row);
        }
    }

    private static void beatsNone() {
        LeverCurtain x = new LeverCurtain(3);
        Due.is(NONE, x.proof(0), "6: nothing beats where there is no office");
        x.strap(7, 1);
        Due.is(NONE, x.proof(0), "6: nor with a strap");
        x.office(7, 1);
        Due.is(NONE, x.proof(0), "6: the strap holds just what the office says");
        x.unstrap();
        x.strap(7, 0);
        Due.is(NONE, x.proof(0), "6: it holds more than that");
        x.unstrap();
        x.strap(7, 2);
        Due.is(3, x.proof(0), "6: it holds less than that");
    }

    private static void beatsLowest() {
        LeverCurtain x = new LeverCurtain(4);
        x.office(0b1111, 1);
        Due.is(0b0011, x.proof(0), "6: the lowest of eleven");
        x.strap(0b0011, 1);
        Due.is(0b0101, x.proof(0), "6: the lowest then");
        x.strap(0b0101, 1);
        Due.is(0b0110, x.proof(0), "6: the lowest then");
        x.strap(0b0110, 1);
        Due.is(0b1001, x.proof(0), "6: the lowest then");
        x.strap(0b1001, 1);
        Due.is(0b1010, x.proof(0), "6: the lowest then");
        x.strap(0b1010, 1);
        Due.is(0b1100, x.proof(0), "6: the last that is left");
        x.strap(0b1100, 1);
        Due.is(NONE, x.proof(0), "6: none is left");
    }

    private static void beatsHighest() {
        LeverCurtain x = new LeverCurtain(16);
        x.office(65535, 15);
        Due.is(65535, x.proof(0), "6: all levers, the highest row");
        x.strap(65535, 15);
        Due.is(NONE, x.proof(0), "6: held");
        LeverCurtain y = new LeverCurtain(2);
        y.office(3, 1);
        Due.is(3, y.proof(0), "6: both of two");
    }

    private static void barredNone() {
        LeverCurtain x = new LeverCurtain(3);
        Due.is(NONE, x.proof(1), "6: nothing is barred by no strap");
        x.strap(7, 3);
        Due.is(NONE, x.proof(1), "6: nor by one that lets all");
        x.strap(7, 2);
        Due.is(7, x.proof(1), "6: all three are");
        x.office(7, 2);
        Due.is(NONE, x.proof(1), "6: what is not lawful is not barred");
    }

    private static void barredLowest() {
        LeverCurtain x = new LeverCurtain(4);
        x.office(0b0011, 1);
        x.strap(0b1110, 1);
        Due.is(0b0110, x.proof(1), "6: the lowest");
        x.strap(0b0100, 0);
        Due.is(0b0100, x.proof(1), "6: a lower one");
        x.strap(0b0001, 0);
        Due.is(0b0001, x.proof(1), "6: the lowest that can be");
    }

    private static void barredHighest() {
        LeverCurtain x = new LeverCurtain(16);
        x.strap(65535, 15);
        Due.is(65535, x.proof(1), "6: all levers, the highest row");
        Due.is(65535, x.rows(), "7: all but one");
    }

    private static void rowsFromOneToAll() {
        LeverCurtain x = new LeverCurtain(16);
        Due.is(65536, x.rows(), "7: all rows");
        x.strap(65535, 16);
        Due.is(65536, x.rows(), "7: all rows still");
        x.strap(65535, 1);
        Due.is(17, x.rows(), "7: one lever or none");
        x.strap(65535, 0);
        Due.is(1, x.rows(), "7: the empty row alone");
        x.office(65535, 1);
        Due.is(1, x.rows(), "7: whatever the offices say");
    }

    private static void needNone() {
        LeverCurtain x = new LeverCurtain(4);
        Due.is(0, x.need(), "8: no strap");
        x.strap(0b0111, 3);
        x.strap(0b1111, 4);
        Due.is(0, x.need(), "8: straps that hold nothing");
        x.strap(0b1111, 3);
        Due.is(0b100, x.need(), "8: one that holds one row");
    }

    private static void needAll() {
        LeverCurtain x = new LeverCurtain(10);
        for (int strap = 0; strap < 10; strap++) {
            x.strap(1 << strap, 0);
            Due.is((2 << strap) - 1, x.need(), "8: each of " + (strap + 1));
        }
        for (int left = 9; left >= 0; left--) {
            x.unstrap();
            Due.is((1 << left) - 1, x.need(), "8: each of " + left);
        }
    }

    private static void needFewestFirst() {
        LeverCurtain x = new LeverCurtain(4);
        x.strap(0b0011, 0);
        x.strap(0b1100, 0);
        Due.is(0b011, x.need(), "8: both");
        x.strap(0b1111, 0);
        Due.is(0b100, x.need(), "8: one later instead of two");
        x.strap(0b1111, 0);
        Due.is(0b0100, x.need(), "8: of two alike the lower");
        for (int i = 4; i < 9; i++) {
            x.strap(0b1111, 1);
        }
        x.strap(0b1111, 0);
        Due.is(0b0100, x.need(), "8: of ten the same");
        LeverCurtain last = new LeverCurtain(2);
        for (int i = 0; i < 9; i++) {
            last.strap(3, 1);
        }
        Due.is(1, last.need(), "8: the first of nine alike");
        last.strap(3, 0);
        Due.is(1 << 9, last.need(), "8: the tenth alone");
    }

    private static void needLowerWhereTwoDiffer() {
        LeverCurtain x = new LeverCurtain(4);
        // each bars two of four levers: 0 and 3 bar all, 1 and 2 too
        x.strap(0b0011, 0);
        x.strap(0b0101, 0);
        x.strap(0b1010, 0);
        x.strap(0b1100, 0);
        Due.is(0b1001, x.need(), "8: 0 and 3 before 1 and 2");
        LeverCurtain y = new LeverCurtain(4);
        // 0 and 2 bar all, 1 and 3 too, 0 and 3, 1 and 2 do not
        y.strap(0b0011, 0);
        y.strap(0b0110, 0);
        y.strap(0b1100, 0);
        y.strap(0b1001, 0);
        Due.is(0b0101, y.need(), "8: 0 and 2 before 1 and 3");
        y.strap(0b1110, 0);
        // 0 with 4 bars all as well, and 3 with 4
        Due.is(0b00101, y.need(), "8: 0 and 2 before 0 and 4");
    }

    private static void ordersNoneToTen() {
        LeverCurtain x = new LeverCurtain(16);
        int[] orders = {1, 1, 2, 6, 24, 120, 720, 5040, 40320, 362880, 3628800};
        for (int many = 0; many <= 10; many++) {
            Due.is(orders[many], x.orders((1 << many) - 1), "9: orders of " + many + " levers");
            Due.is(orders[many], x.orders((1 << many) - 1 << 16 - many & 65535), "9: of the last " + many);
        }
        for (int many = 11; many <= 16; many++) {
            Due.is(NONE, x.orders((1 << many) - 1), "9: orders of " + many + " levers");
        }
        Due.is(NONE, x.orders(-1), "9: no row");
        Due.is(NONE, x.orders(65536), "9: a row of lever 16");
        Due.is(3628800, x.orders(0b1010101111110100), "9: ten here and there");
        Due.is(NONE, x.orders(0b1010101111111100), "9: eleven here and there");
    }

    private static void ordersThatStick() {
        LeverCurtain x = new LeverCurtain(11);
        x.strap(0b111, 2);
        Due.is(2, x.orders(0b011), "9: just so many as can be pulled");
        Due.is(0, x.orders(0b111), "9: one more");
        Due.is(0, x.orders(0b1111111111), "9: ten that stick");
        Due.is(NONE, x.orders(0b11111111111), "9: eleven that stick");
        Due.is(1, x.orders(0), "9: none");
        x.strap(0b1000, 0);
        Due.is(0, x.orders(0b1000), "9: one that sticks");
        x.office(0b110000, 1);
        Due.is(2, x.orders(0b110000), "9: whatever the offices say");
    }

    private static void counts() {
        LeverCurtain x = new LeverCurtain(3);
        for (int what : new int[] {Integer.MIN_VALUE, -100000, -2, -1, 9, 10, Integer.MAX_VALUE}) {
            Due.is(HIDDEN, x.count(what), "55: count(" + what + ")");
        }
        Due.is(NONE, x.count(6), "55: no law in use");
        Scene.law(x, "y:1");
        Due.is(NONE, x.count(6), "55: a law, but none in use");
        x.use(0);
        Due.is(0, x.count(6), "55: law 0 in use");
        x.use(NONE);
        Due.is(NONE, x.count(6), "55: none in use again");
    }

    private static void countsWhenFull() {
        LeverCurtain x = Scene.full();
        int[] full = {6, 10, 4, 6, 8, 4, 3, 8, 8};
        for (int what = 0; what < full.length; what++) {
            Due.is(full[what], x.count(what), "55: count(" + what + ") of a full one");
        }
        Scene.feed(x, "x".repeat(120));
        Due.is(120, x.count(5), "55: a full tape");
        x.end(0);
        Due.is(0, x.count(5), "55: an empty tape");
    }
}
