import java.math.BigInteger;

/**
 * The boundaries of the Terms 4 and of promises 29 to 33: the value just within each and the one just outside
 * it, the empty and the full one. The number before each text is that of the promise.
 */
public final class TrialEdgeTest {
    private static final int NONE = LeverCurtain.NONE;
    private static final int LOW = Integer.MIN_VALUE;
    private static final int TOP = Integer.MAX_VALUE;
    private static final int STICKS = 0;
    private static final int SWAPPED = 1;
    private static final int DEAD = 2;
    private static final int BEGAN = 3;
    private static final int OFF = 4;

    public static void main(String[] args) {
        testWithin();
        testsEight();
        seesNone();
        seesSticking();
        seesSwapped();
        seesDead();
        seesBegan();
        seesCountersOfOffices();
        seesNothingOfRowsNotLet();
        seesStrapsOff();
        seesEachFaultAlone();
        seesLastOfEight();
        coverNone();
        coverFewestFirst();
        coverLowerWhereTwoDiffer();
        coverOfWhatSeveralSee();
        coverAllEight();
        nameWithin();
        namesBySeeds();
        namesGoingRound();
        firstWithin();
        firstGoingRound();
        Due.end();
    }

    private static LeverCurtain booth(int levers, int office, int k) {
        LeverCurtain x = new LeverCurtain(levers);
        Due.is(0, x.office(office, k), "2: office");
        Due.is(0, x.machine(0, 0, 0, 0, 0), "15: a machine where nobody voted");
        return x;
    }

    private static void trouble(LeverCurtain x, int kind, int a, int b) {
        Due.yes(x.trouble(0, kind, a, b) >= 0, "19: trouble " + kind + ", " + a + ", " + b);
    }

    private static void testWithin() {
        LeverCurtain x = booth(3, 7, 1);
        for (int row : new int[] {LOW, -1, 8, TOP}) {
            Due.is(NONE, x.test(row, 1), "29: row " + row);
        }
        for (int times : new int[] {LOW, -1, 201, TOP}) {
            Due.is(NONE, x.test(1, times), "29: " + times + " times");
        }
        Due.is(0, x.count(4), "29: none came");
        Due.is(0, x.test(0, 0), "29: the empty row, no time");
        Due.is(1, x.test(7, 200), "29: all levers, 200 times");
        Due.is(2, x.test(7, 0), "29: all levers, no time");
        Due.is(3, x.test(0, 200), "29: the empty row, 200 times");
        Due.is(NONE, x.test(7, 201), "29: 201 times");
        Due.is(4, x.test(1, 1), "29: one lever, once");
        Due.is(5, x.count(4), "29: five");
    }

    private static void testsEight() {
        LeverCurtain x = booth(3, 7, 1);
        trouble(x, DEAD, 0, 0);
        for (int test = 0; test < 8; test++) {
            Due.is(NONE, x.sees(test, 0), "30: test " + test + " is none yet");
            Due.is(test, x.test(test & 7, 1), "29: test " + test);
            Due.is(test & 1, x.sees(test, 0), "30: test " + test);
        }
        Due.is(NONE, x.test(1, 1), "29: a ninth");
        Due.is(8, x.count(4), "29: eight");
        Due.is(NONE, x.sees(8, 0), "30: a ninth");
    }

    private static void seesNone() {
        LeverCurtain x = booth(3, 7, 1);
        x.test(1, 1);
        Due.is(0, x.sees(0, 0), "30: no fault");
        trouble(x, DEAD, 0, 0);
        Due.is(1, x.sees(0, 0), "30: one fault");
        for (int test : new int[] {LOW, -1, 1, 8, TOP}) {
            Due.is(NONE, x.sees(test, 0), "30: test " + test);
        }
        for (int machine : new int[] {LOW, -1, 1, 6, TOP}) {
            Due.is(NONE, x.sees(0, machine), "30: machine " + machine);
            Due.is(NONE, x.cover(machine), "31: machine " + machine);
        }
        LeverCurtain none = new LeverCurtain(2);
        none.test(1, 1);
        Due.is(NONE, none.sees(0, 0), "30: no machine");
        Due.is(NONE, none.cover(0), "31: no machine");
        none.machine(0, 0, 0, 0, 0);
        Due.is(0, none.sees(0, 0), "30: a machine with no fault");
    }

    /** What a TEST of LEVERS 0 and 1 of an OFFICE, LEVER 2 of none, SEES of one FAULT. */
    private static void sees(boolean want, int kind, int a, int b, int row, int times) {
        LeverCurtain x = booth(3, 3, 2);
        trouble(x, kind, a, b);
        x.test(row, times);
        String what = "30: kind " + kind + ", " + a + ", " + b + " by row " + row + ", " + times + " times";
        Due.is(want ? 1 : 0, x.sees(0, 0), what);
    }

    private static void seesSticking() {
        for (int times : new int[] {0, 1, 9}) {
            sees(false, STICKS, 0, 0, 1, times);
        }
        for (int times : new int[] {10, 11, 19, 20, 99, 100, 110, 200}) {
            sees(true, STICKS, 0, 0, 1, times);
        }
        for (int times : new int[] {0, 10, 99}) {
            sees(false, STICKS, 0, 1, 1, times);
        }
        for (int times : new int[] {100, 101, 199, 200}) {
            sees(true, STICKS, 0, 1, 1, times);
        }
        sees(false, STICKS, 0, 0, 2, 200);
        sees(true, STICKS, 1, 0, 2, 200);
        sees(true, STICKS, 1, 1, 7, 100);
        sees(false, STICKS, 2, 0, 7, 200);
    }

    private static void seesSwapped() {
        for (int times : new int[] {1, 200}) {
            sees(true, SWAPPED, 0, 1, 1, times);
            sees(true, SWAPPED, 0, 1, 2, times);
            sees(true, SWAPPED, 1, 0, 1, times);
            sees(false, SWAPPED, 0, 1, 0, times);
            sees(false, SWAPPED, 0, 1, 3, times);
            sees(false, SWAPPED, 0, 1, 4, times);
            sees(true, SWAPPED, 0, 1, 5, times);
            sees(true, SWAPPED, 0, 2, 1, times);
            sees(true, SWAPPED, 0, 2, 4, times);
            sees(true, SWAPPED, 2, 0, 4, times);
            sees(true, SWAPPED, 2, 0, 1, times);
            sees(false, SWAPPED, 2, 0, 5, times);
            sees(false, SWAPPED, 2, 0, 2, times);
        }
        sees(false, SWAPPED, 0, 1, 1, 0);
    }

    private static void seesDead() {
        sees(false, DEAD, 0, 0, 1, 0);
        sees(true, DEAD, 0, 0, 1, 1);
        sees(true, DEAD, 0, 0, 1, 200);
        sees(false, DEAD, 0, 0, 2, 200);
        sees(true, DEAD, 0, 0, 3, 1);
        sees(false, DEAD, 0, 0, 0, 200);
        sees(false, DEAD, 2, 0, 7, 200);
    }

    private static void seesBegan() {
        for (int times : new int[] {0, 1, 199, 200}) {
            sees(true, BEGAN, 0, 1, 1, times);
            sees(true, BEGAN, 0, 999, 1, times);
            sees(true, BEGAN, 0, 800, 1, times);
            sees(true, BEGAN, 1, 200, 1, times);
            sees(true, BEGAN, 1, 500, 0, times);
            sees(true, BEGAN, 0, Math.max(1, 2 * times), 1, times);
            sees(false, BEGAN, 2, 1, 7, times);
        }
    }

    private static void seesCountersOfOffices() {
        LeverCurtain x = new LeverCurtain(3);
        x.machine(0, 0, 0, 0, 0);
        x.trouble(0, DEAD, 0, 0);
        x.trouble(0, BEGAN, 1, 5);
        x.trouble(0, SWAPPED, 0, 2);
        x.test(1, 1);
        Due.is(0, x.sees(0, 0), "30: no office");
        x.office(2, 1);
        Due.is(0b010, x.sees(0, 0), "30: the counter of lever 1");
        x.office(4, 1);
        Due.is(0b110, x.sees(0, 0), "30: the counter of lever 2 shows 0's pulls");
        x.office(1, 1);
        Due.is(0b111, x.sees(0, 0), "30: all");
    }

    private static void seesNothingOfRowsNotLet() {
        LeverCurtain x = booth(4, 7, 1);
        trouble(x, DEAD, 0, 0);
        trouble(x, BEGAN, 1, 7);
        trouble(x, SWAPPED, 0, 1);
        trouble(x, STICKS, 0, 0);
        x.test(0b0111, 50);
        x.test(0b0011, 50);
        x.test(0b0001, 50);
        Due.is(0b1011, x.sees(0, 0), "30: with no strap");
        x.strap(0b0111, 2);
        Due.is(0b0010, x.sees(0, 0), "30: one more than can be pulled");
        Due.is(0b1011, x.sees(1, 0), "30: just as many as can be pulled");
        x.strap(0b0011, 1);
        Due.is(0b0010, x.sees(1, 0), "30: one more by the other strap");
        Due.is(0b1111, x.sees(2, 0), "30: one lever");
        x.strap(0b0001, 0);
        Due.is(0b0010, x.sees(2, 0), "30: none can be pulled");
        x.unstrap();
        Due.is(0b1111, x.sees(2, 0), "30: one lever again");
        x.strap(0b1000, 0);
        Due.is(0b1111, x.sees(2, 0), "30: a strap on another lever");
        for (int held = 0; held < 3; held++) {
            LeverCurtain y = booth(3, 7, 3);
            for (int lever = 0; lever < 3; lever++) {
                trouble(y, DEAD, lever, 0);
                trouble(y, SWAPPED, lever, (lever + 1) % 3);
            }
            y.strap(1 << held, 0);
            y.test(1 << held, 3);
            y.test(7, 3);
            Due.is(0, y.sees(0, 0), "30: a strap on lever " + held + " alone, which is pulled");
            Due.is(0, y.sees(1, 0), "30: a strap on lever " + held + " alone, all are pulled");
        }
    }

    private static void seesStrapsOff() {
        LeverCurtain x = booth(5, 0b00011, 1);
        x.office(0b01100, 1);
        trouble(x, OFF, 0, 0);
        trouble(x, OFF, 1, 0);
        x.test(0b00011, 1);
        x.test(0b00001, 200);
        x.test(0b00011, 0);
        x.test(0b01111, 1);
        x.test(0b10011, 1);
        offs(x, "no strap", 0, 0, 0, 0, 0);
        x.strap(0b00011, 1);
        offs(x, "a strap on both levers of office 0", 1, 0, 0, 1, 1);
        x.strap(0b10000, 0);
        offs(x, "one on a lever of no office", 1, 0, 0, 1, 0);
        x.unstrap();
        x.strap(0b01100, 1);
        offs(x, "one on both levers of office 1", 1, 0, 0, 0, 1);
        x.unstrap();
        x.strap(0b00001, 0);
        offs(x, "one on lever 0 alone", 1, 1, 0, 1, 1);
        x.strap(0b00111, 2);
        offs(x, "one on a lever of the other office, that lets two", 1, 1, 0, 0, 1);
        x.strap(0b00111, 1);
        offs(x, "one on a lever of the other office", 0, 1, 0, 0, 0);
        x.strap(0b10001, 0);
        offs(x, "one on a lever of no office too", 0, 0, 0, 0, 0);
        LeverCurtain other = booth(4, 0b0011, 1);
        other.office(0b1100, 1);
        trouble(other, OFF, 0, 0);
        trouble(other, OFF, 1, 0);
        other.strap(0b1100, 1);
        other.test(0b1100, 1);
        other.test(0b1101, 1);
        offs(other, "the straps of office 1", 2, 2);
        other.strap(0b0001, 0);
        offs(other, "the straps of both", 2, 0);
    }

    private static void offs(LeverCurtain x, String what, int... seen) {
        for (int test = 0; test < seen.length; test++) {
            Due.is(seen[test], x.sees(test, 0), "30: off by test " + test + ", " + what);
        }
    }

    /** No FAULT hides another: each is tried alone, with what the MACHINE SHOWS and how it is OPENED left aside. */
    private static void seesEachFaultAlone() {
        LeverCurtain x = booth(2, 3, 2);
        trouble(x, DEAD, 0, 0);
        trouble(x, STICKS, 0, 0);
        trouble(x, BEGAN, 0, 10);
        trouble(x, BEGAN, 0, 990);
        trouble(x, SWAPPED, 0, 1);
        trouble(x, SWAPPED, 1, 0);
        x.test(1, 10);
        x.test(1, 9);
        x.test(3, 10);
        Due.is(0b111111, x.sees(0, 0), "30: each of them");
        Due.is(0b111101, x.sees(1, 0), "30: each but the wheel");
        Due.is(0b001111, x.sees(2, 0), "30: each but those swapped");
        x.show(0, 0, 500);
        Due.yes(!x.open(0, 1), "23: it does not fit");
        x.show(0, 0, 0);
        Due.yes(x.open(0, 1), "23: dead");
        Due.is(0b111111, x.sees(0, 0), "30: each of them still");
    }

    private static void seesLastOfEight() {
        LeverCurtain x = booth(16, 1 << 15, 1);
        for (int fault = 0; fault < 7; fault++) {
            trouble(x, DEAD, fault, 0);
        }
        trouble(x, DEAD, 15, 0);
        x.test(65535, 1);
        x.test(32767, 1);
        Due.is(128, x.sees(0, 0), "30: the last of eight, by the last of sixteen levers");
        Due.is(0, x.sees(1, 0), "30: none by all others");
        Due.is(1, x.cover(0), "31: the first");
    }

    private static void coverNone() {
        LeverCurtain x = booth(3, 3, 2);
        Due.is(0, x.cover(0), "31: no test, no fault");
        x.test(3, 1);
        Due.is(0, x.cover(0), "31: no fault");
        trouble(x, DEAD, 2, 0);
        Due.is(0, x.cover(0), "31: a fault that none sees");
        trouble(x, STICKS, 0, 0);
        Due.is(0, x.cover(0), "31: two that none sees");
        x.test(1, 10);
        Due.is(2, x.cover(0), "31: one of two is seen");
        LeverCurtain none = booth(3, 3, 2);
        trouble(none, DEAD, 0, 0);
        Due.is(0, none.cover(0), "31: no test");
    }

    private static void coverFewestFirst() {
        LeverCurtain x = booth(4, 15, 4);
        for (int lever = 0; lever < 3; lever++) {
            trouble(x, DEAD, lever, 0);
        }
        x.test(0b001, 1);
        x.test(0b010, 1);
        Due.is(0b011, x.cover(0), "31: both");
        x.test(0b100, 1);
        Due.is(0b111, x.cover(0), "31: all three");
        x.test(0b011, 1);
        Due.is(0b1100, x.cover(0), "31: two instead of three");
        x.test(0b111, 1);
        Due.is(0b10000, x.cover(0), "31: one instead of two");
        x.test(0b111, 200);
        Due.is(0b10000, x.cover(0), "31: of two alike the lower");
        LeverCurtain last = booth(2, 3, 2);
        trouble(last, DEAD, 1, 0);
        for (int test = 0; test < 7; test++) {
            last.test(1, 1);
        }
        last.test(2, 1);
        Due.is(128, last.cover(0), "31: the last of eight alone");
    }

    private static void coverLowerWhereTwoDiffer() {
        LeverCurtain x = booth(4, 15, 4);
        for (int lever = 0; lever < 4; lever++) {
            trouble(x, DEAD, lever, 0);
        }
        x.test(0b0011, 1);
        x.test(0b0101, 1);
        x.test(0b1010, 1);
        x.test(0b1100, 1);
        Due.is(0b1001, x.cover(0), "31: 0 and 3 before 1 and 2");
        LeverCurtain y = booth(4, 15, 4);
        for (int lever = 0; lever < 4; lever++) {
            trouble(y, DEAD, lever, 0);
        }
        y.test(0b0011, 1);
        y.test(0b0110, 1);
        y.test(0b1100, 1);
        y.test(0b1001, 1);
        Due.is(0b0101, y.cover(0), "31: 0 and 2 before 1 and 3");
        y.test(0b1110, 1);
        Due.is(0b00101, y.cover(0), "31: 0 and 2 before 0 and 4");
    }

    /** What several of them see counts once. */
    private static void coverOfWhatSeveralSee() {
        LeverCurtain x = booth(4, 15, 4);
        for (int lever = 0; lever < 3; lever++) {
            trouble(x, DEAD, lever, 0);
        }
        x.test(0b0011, 1);
        x.test(0b0110, 1);
        x.test(0b0010, 1);
        Due.is(0b011, x.cover(0), "31: two that both see one of three");
        x.test(0b0101, 1);
        Due.is(0b0011, x.cover(0), "31: 0 and 1 before 0 and 3, 1 and 3, 2 and 3");
        trouble(x, DEAD, 3, 0);
        x.test(0b1011, 1);
        Due.is(0b10010, x.cover(0), "31: 1 and 4 before 3 and 4");
    }

    private static void coverAllEight() {
        LeverCurtain x = booth(8, 255, 8);
        for (int i = 0; i < 8; i++) {
            trouble(x, DEAD, i, 0);
            x.test(1 << i, 1);
            Due.is((2 << i) - 1, x.cover(0), "31: all of " + (i + 1));
        }
        x.machine(0, 0, 0, 0, 0);
        Due.is(0, x.cover(1), "31: a machine with no fault");
        x.trouble(1, BEGAN, 5, 3);
        Due.is(1, x.cover(1), "31: each sees where it began: the lowest");
    }

    private static void nameWithin() {
        LeverCurtain x = new LeverCurtain(5);
        Due.is(NONE, x.name(0, 1, 0, 0), "32: no office");
        x.office(0b10101, 1);
        x.office(0b00010, 1);
        for (int office : new int[] {LOW, -1, 2, 6, TOP}) {
            Due.is(NONE, x.name(office, 1, 0, 0), "32: office " + office);
        }
        for (int machine : new int[] {LOW, -1, 6, 100, TOP}) {
            Due.is(NONE, x.name(0, 1, machine, 0), "32: machine " + machine);
        }
        for (int place : new int[] {LOW, -1, 3, 16, TOP}) {
            Due.is(NONE, x.name(0, 1, 0, place), "32: place " + place + " of three");
        }
        for (int machine = 0; machine < 6; machine++) {
            int all = 0;
            for (int place = 0; place < 3; place++) {
                all |= 1 << x.name(0, 1, machine, place);
            }
            Due.is(0b10101, all, "32: all three stand on machine " + machine);
            Due.is(1, x.name(1, 1, machine, 0), "32: one alone on machine " + machine);
            Due.is(NONE, x.name(1, 1, machine, 1), "32: place 1 of one on machine " + machine);
            Due.is(NONE, x.name(1, 1, machine, -1), "32: place -1 of one on machine " + machine);
        }
        Due.is(0, x.count(3), "32: no machine is asked for");
    }

    private static final BigInteger ROUND = BigInteger.ONE.shiftLeft(64);

    /** The order on MACHINE 0 of so many NAMES, as the document tells it. */
    private static int[] order(int many, long seed) {
        int[] order = new int[many];
        for (int i = 0; i < many; i++) {
            order[i] = i;
        }
        BigInteger x = BigInteger.valueOf(seed).mod(ROUND);
        for (int place = many - 1; place >= 1; place--) {
            x = x.multiply(new BigInteger("6364136223846793005")).add(new BigInteger("1442695040888963407")).mod(ROUND);
            int with = x.shiftRight(33).mod(BigInteger.valueOf(place + 1)).intValue();
            int kept = order[place];
            order[place] = order[with];
            order[with] = kept;
        }
        return order;
    }

    private static void namesBySeeds() {
        long[] seeds = {0, 1, 2, -1, -2, Long.MIN_VALUE, Long.MAX_VALUE, Integer.MIN_VALUE, 1L << 32, 1L << 33,
            -1L << 33, 0x123456789abcdefL};
        for (int many = 1; many <= 16; many++) {
            LeverCurtain x = new LeverCurtain(16);
            x.office((1 << many) - 1 << 16 - many, 1);
            for (long seed : seeds) {
                int[] order = order(many, seed);
                for (int place = 0; place < many; place++) {
                    int lever = order[place] + 16 - many;
                    Due.is(lever, x.name(0, seed, 0, place), "32: place " + place + " of " + many + " by " + seed);
                }
            }
        }
    }

    private static void namesGoingRound() {
        for (int many = 1; many <= 8; many++) {
            LeverCurtain x = new LeverCurtain(8);
            x.office((1 << many) - 1, 1);
            int[] order = order(many, 77);
            for (int machine = 0; machine < 6; machine++) {
                for (int place = 0; place < many; place++) {
                    int moved = (place + machine) % many;
                    Due.is(order[place], x.name(0, 77, machine, moved), "32: moved on machine " + machine);
                }
            }
        }
    }

    private static void firstWithin() {
        LeverCurtain x = new LeverCurtain(5);
        x.office(0b10101, 1);
        x.office(0b00010, 1);
        for (int machines : new int[] {LOW, -1, 0, 101, 1000, TOP}) {
            Due.is(NONE, x.first(1, 1, machines), "33: on " + machines + " machines");
        }
        for (int machines : new int[] {1, 2, 6, 7, 99, 100}) {
            Due.is(machines, x.first(1, 1, machines), "33: one alone on " + machines + " machines");
        }
        for (int lever : new int[] {LOW, -1, 3, 5, 16, TOP}) {
            Due.is(NONE, x.first(lever, 1, 10), "33: lever " + lever);
        }
        Due.is(100, x.first(0, 9, 100) + x.first(2, 9, 100) + x.first(4, 9, 100), "33: one of three on each");
    }

    private static void firstGoingRound() {
        for (int many = 1; many <= 16; many++) {
            LeverCurtain x = new LeverCurtain(16);
            x.office((1 << many) - 1, 1);
            int[] order = order(many, -5);
            for (int place = 0; place < many; place++) {
                int before = (many - place) % many;
                for (int machines : new int[] {1, before, before + 1, before + many, before + many + 1}) {
                    if (machines >= 1) {
                        int want = machines > before ? (machines - before - 1) / many + 1 : 0;
                        Due.is(want, x.first(order[place], -5, machines), "33: of " + many + " on " + machines);
                    }
                }
            }
        }
    }
}
