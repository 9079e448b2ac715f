/** Promises 29 to 33: TESTS, what they SEE, COVER, and how NAMES of an OFFICE stand. */
public final class TrialTest {
    private static final int NONE = LeverCurtain.NONE;
    private static final int STICKS = 0;
    private static final int SWAPPED = 1;
    private static final int DEAD = 2;
    private static final int BEGAN = 3;
    private static final int OFF = 4;

    public static void main(String[] args) {
        tests();
        seenOfCounters();
        seenOfSwapped();
        seenOfStraps();
        seenOfOff();
        covers();
        names();
        firsts();
        Due.end();
    }

    private static void tests() {
        LeverCurtain x = new LeverCurtain(3);
        Due.is(NONE, x.test(8, 1), "no such row");
        Due.is(NONE, x.test(-1, 1), "no such row");
        Due.is(NONE, x.test(1, -1), "times -1");
        Due.is(NONE, x.test(1, 201), "times 201");
        Due.is(0, x.test(0, 0), "an empty row, no time");
        Due.is(1, x.test(7, 200), "all, 200 times");
        for (int test = 2; test < 8; test++) {
            Due.is(test, x.test(1, 1), "test " + test);
        }
        Due.is(NONE, x.test(1, 1), "a ninth test");
        Due.is(NONE, x.sees(0, 0), "no such machine");
        x.machine(0, 0, 0, 0, 0);
        Due.is(0, x.sees(7, 0), "no fault to see");
        Due.is(NONE, x.sees(8, 0), "no such test");
        Due.is(NONE, x.sees(-1, 0), "no such test");
        Due.is(NONE, x.sees(0, 1), "no such machine");
        Due.is(NONE, x.sees(0, -1), "no such machine");
    }

    /** One fault on a machine of two levers of an office, one of none; then what a test sees of it. */
    private static void sees(int want, int kind, int a, int b, int row, int times) {
        LeverCurtain x = new LeverCurtain(3);
        x.office(3, 2);
        x.machine(0, 0, 0, 0, 0);
        x.trouble(0, kind, a, b);
        x.test(row, times);
        String what = "sees kind " + kind + ", " + a + ", " + b + " by row " + row + ", " + times + " times";
        Due.is(want, x.sees(0, 0), what);
    }

    private static void seenOfCounters() {
        sees(0, STICKS, 0, 0, 1, 9);
        sees(1, STICKS, 0, 0, 1, 10);
        sees(1, STICKS, 0, 0, 3, 200);
        sees(0, STICKS, 0, 1, 1, 99);
        sees(1, STICKS, 0, 1, 1, 100);
        sees(0, STICKS, 0, 0, 2, 100);
        sees(0, STICKS, 2, 0, 7, 100);
        sees(0, DEAD, 0, 0, 1, 0);
        sees(1, DEAD, 0, 0, 1, 1);
        sees(1, DEAD, 1, 0, 7, 200);
        sees(0, DEAD, 1, 0, 1, 1);
        sees(0, DEAD, 2, 0, 7, 1);
        sees(1, BEGAN, 0, 1, 0, 0);
        sees(1, BEGAN, 1, 999, 3, 200);
        sees(0, BEGAN, 2, 5, 4, 1);
        sees(1, BEGAN, 0, 2, 1, 1);
        sees(1, BEGAN, 1, 400, 2, 200);
    }

    private static void seenOfSwapped() {
        sees(1, SWAPPED, 0, 1, 1, 1);
        sees(1, SWAPPED, 0, 1, 2, 1);
        sees(0, SWAPPED, 0, 1, 3, 1);
        sees(0, SWAPPED, 0, 1, 4, 1);
        sees(0, SWAPPED, 0, 1, 1, 0);
        sees(1, SWAPPED, 0, 2, 1, 1);
        sees(1, SWAPPED, 2, 0, 4, 1);
        sees(0, SWAPPED, 2, 0, 5, 1);
        sees(0, SWAPPED, 2, 0, 2, 1);
        LeverCurtain x = new LeverCurtain(4);
        x.office(3, 1);
        x.machine(0, 0, 0, 0, 0);
        x.trouble(0, SWAPPED, 2, 3);
        x.trouble(0, DEAD, 0, 0);
        x.trouble(0, BEGAN, 1, 4);
        x.test(4, 1);
        x.test(1, 1);
        Due.is(0b100, x.sees(0, 0), "levers of no office are not seen");
        Due.is(0b110, x.sees(1, 0), "two of the three");
        x.office(4, 1);
        Due.is(0b101, x.sees(0, 0), "one is of an office then");
    }

    private static void seenOfStraps() {
        LeverCurtain x = new LeverCurtain(3);
        x.office(3, 1);
        x.machine(0, 0, 0, 0, 0);
        x.trouble(0, DEAD, 0, 0);
        x.trouble(0, BEGAN, 0, 3);
        x.test(3, 5);
        Due.is(0b11, x.sees(0, 0), "with no strap");
        x.strap(3, 1);
        Due.is(0b10, x.sees(0, 0), "the row is not let: it counts for nothing");
        x.unstrap();
        Due.is(0b11, x.sees(0, 0), "with no strap again");
        x.strap(1, 0);
        Due.is(0b10, x.sees(0, 0), "a strap on lever 0 alone");
        x.trouble(0, SWAPPED, 0, 2);
        x.trouble(0, SWAPPED, 2, 0);
        x.trouble(0, STICKS, 0, 0);
        x.test(5, 50);
        x.test(1, 50);
        Due.is(0b10, x.sees(1, 0), "a row that it does not let");
        Due.is(0b10, x.sees(2, 0), "another that it does not let");
    }

    private static void seenOfOff() {
        LeverCurtain x = new LeverCurtain(5);
        x.office(7, 1);
        x.office(8, 1);
        x.machine(0, 0, 0, 0, 0);
        x.trouble(0, OFF, 0, 0);
        x.trouble(0, OFF, 1, 0);
        x.test(3, 1);
        x.test(1, 1);
        x.test(3, 0);
        Due.is(0, x.sees(0, 0), "with no strap");
        x.strap(3, 1);
        Due.is(0b01, x.sees(0, 0), "the strap lets all then");
        Due.is(0, x.sees(1, 0), "what is let is no sight");
        Due.is(0, x.sees(2, 0), "pulled no time");
        x.strap(11, 1);
        Due.is(0, x.sees(0, 0), "a strap on both offices stays");
        x.unstrap();
        x.strap(19, 2);
        Due.is(0b01, x.sees(0, 0), "a strap that lets it anyway");
        x.strap(7, 0);
        Due.is(0b01, x.sees(0, 0), "both its straps are off");
        x.test(8, 1);
        x.strap(8, 0);
        Due.is(0b10, x.sees(3, 0), "the other office's strap");
        x.test(9, 1);
        Due.is(0, x.sees(4, 0), "one of two straps in its way is off");
    }

    private static void covers() {
        LeverCurtain x = new LeverCurtain(5);
        Due.is(NONE, x.cover(0), "no such machine");
        x.office(31, 5);
        x.machine(0, 0, 0, 0, 0);
        Due.is(0, x.cover(0), "no test, no fault");
        for (int lever = 0; lever < 4; lever++) {
            x.trouble(0, DEAD, lever, 0);
        }
        Due.is(0, x.cover(0), "no test sees them");
        x.test(16, 1);
        Due.is(0, x.cover(0), "this sees none");
        x.test(0b0011, 1);
        Due.is(0b10, x.cover(0), "what can be seen");
        x.test(0b0110, 1);
        x.test(0b1100, 1);
        Due.is(0b1010, x.cover(0), "two of three");
        x.test(0b1010, 1);
        x.test(0b0101, 1);
        Due.is(0b1010, x.cover(0), "1 and 3 before 4 and 5");
        x.test(0b1111, 1);
        Due.is(0b1000000, x.cover(0), "one sees all");
        x.test(0b1111, 2);
        Due.is(0b1000000, x.cover(0), "of two alike the lower");
        Due.is(NONE, x.cover(1), "no such machine");
        Due.is(NONE, x.cover(-1), "no such machine");
        LeverCurtain y = new LeverCurtain(4);
        y.office(15, 4);
        y.machine(0, 0, 0, 0, 0);
        for (int lever = 0; lever < 4; lever++) {
            y.trouble(0, DEAD, lever, 0);
        }
        y.test(0b0001, 1);
        y.test(0b0110, 1);
        y.test(0b1001, 1);
        y.test(0b1110, 1);
        Due.is(0b1001, y.cover(0), "0 and 3 before 1 and 2");
    }

    private static LeverCurtain named() {
        LeverCurtain x = new LeverCurtain(16);
        x.office(0b11011010, 1);
        x.office(0b101, 1);
        return x;
    }

    private static void order(long seed, int... want) {
        LeverCurtain x = named();
        int office = want.length == 5 ? 0 : 1;
        for (int machine = 0; machine < 6; machine++) {
            for (int place = 0; place < want.length; place++) {
                int standing = (place + machine) % want.length;
                Due.is(want[place], x.name(office, seed, machine, standing), "name by " + seed + " on " + machine);
            }
        }
    }

    private static void names() {
        order(0, 7, 6, 3, 1, 4);
        order(1, 6, 4, 1, 3, 7);
        order(-1, 4, 1, 3, 7, 6);
        order(12345678901234567L, 7, 1, 3, 4, 6);
        order(Long.MIN_VALUE, 7, 4, 6, 1, 3);
        order(Long.MAX_VALUE, 3, 4, 1, 6, 7);
        order(0, 0, 2);
        order(1, 2, 0);
        LeverCurtain x = named();
        Due.is(NONE, x.name(2, 0, 0, 0), "no such office");
        Due.is(NONE, x.name(-1, 0, 0, 0), "no such office");
        Due.is(NONE, x.name(0, 0, 6, 0), "machine 6");
        Due.is(NONE, x.name(0, 0, -1, 0), "machine -1");
        Due.is(NONE, x.name(0, 0, 0, 5), "place 5");
        Due.is(NONE, x.name(0, 0, 0, -1), "place -1");
        Due.is(NONE, x.name(1, 0, 0, 2), "place 2 of two");
        LeverCurtain all = new LeverCurtain(16);
        all.office(65535, 1);
        int[] sixteen = {3, 7, 12, 10, 6, 1, 8, 0, 2, 4, 14, 5, 11, 13, 9, 15};
        for (int place = 0; place < 16; place++) {
            Due.is(sixteen[place], all.name(0, 0, 0, place), "name of sixteen");
        }
    }

    private static void firsts() {
        LeverCurtain x = named();
        // by seed 0: 7, 6, 3, 1, 4 on machine 0; 4 first on machine 1, then 1, 3, 6
        int[] many = {1, 1, 1, 1, 1, 2, 2, 2, 2, 2, 3};
        for (int machines = 1; machines <= many.length; machines++) {
            Due.is(many[machines - 1], x.first(7, 0, machines), "first of 7 on " + machines);
        }
        Due.is(0, x.first(4, 0, 1), "first of 4 on one");
        Due.is(1, x.first(4, 0, 2), "first of 4 on two");
        Due.is(0, x.first(6, 0, 4), "first of 6 on four");
        Due.is(1, x.first(6, 0, 5), "first of 6 on five");
        Due.is(20, x.first(6, 0, 100), "first on a hundred");
        Due.is(50, x.first(2, 0, 100), "first of two on a hundred");
        Due.is(NONE, x.first(0, 0, 0), "no machine");
        Due.is(NONE, x.first(0, 0, -1), "machines below 0");
        Due.is(NONE, x.first(0, 0, 101), "101 machines");
        Due.is(NONE, x.first(5, 0, 1), "a lever of no office");
        Due.is(NONE, x.first(16, 0, 1), "no such lever");
        Due.is(NONE, x.first(-1, 0, 1), "no such lever");
    }
}
