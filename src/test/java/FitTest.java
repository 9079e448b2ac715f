/** Promises 18 to 28: what MACHINES SHOW, FAULTS, sets that FIT, SPANS, who is AHEAD, which to open. */
public final class FitTest {
    private static final int NONE = LeverCurtain.NONE;
    private static final int HIDDEN = LeverCurtain.HIDDEN;
    private static final int STICKS = 0;
    private static final int SWAPPED = 1;
    private static final int DEAD = 2;
    private static final int BEGAN = 3;
    private static final int OFF = 4;

    public static void main(String[] args) {
        showing();
        troubles();
        noFault();
        manyPulls();
        sticking();
        swapping();
        dying();
        beginning();
        straps();
        combined();
        leversOfNoOffice();
        fittingByNumbers();
        choosing();
        opening();
        totals();
        leads();
        winners();
        costs();
        tills();
        tillChoices();
        votersByLaw();
        lastMachine();
        Due.end();
    }

    private static LeverCurtain booth(int levers, int office, int k, int voters) {
        LeverCurtain x = new LeverCurtain(levers);
        Due.is(0, x.office(office, k), "office");
        Due.is(0, x.machine(voters, 0, 0, 0, 0), "machine");
        return x;
    }

    private static void show(LeverCurtain x, int machine, int... numbers) {
        for (int lever = 0; lever < numbers.length; lever++) {
            Due.yes(x.show(machine, lever, numbers[lever]), "show");
        }
    }

    private static void span(LeverCurtain x, int machine, int lever, int least, int most) {
        Due.is(least, x.span(machine, lever, 0), "the least of lever " + lever);
        Due.is(most, x.span(machine, lever, 1), "the greatest of lever " + lever);
    }

    private static void showing() {
        LeverCurtain x = booth(3, 7, 1, 10);
        Due.yes(x.show(0, 2, 0), "show 0");
        Due.yes(x.show(0, 2, 999), "show 999");
        Due.no(x.show(0, 2, 1000), "show 1000");
        Due.no(x.show(0, 2, -1), "show -1");
        Due.no(x.show(0, 3, 1), "show of no lever");
        Due.no(x.show(0, -1, 1), "show of no lever");
        Due.no(x.show(1, 0, 1), "show of no machine");
        Due.no(x.show(-1, 0, 1), "show of no machine");
        Due.is(0, x.fitting(0, NONE), "999 of ten voters");
        Due.yes(x.show(0, 2, 10), "show 10");
        span(x, 0, 2, 10, 10);
    }

    private static void troubles() {
        LeverCurtain x = booth(3, 3, 1, 10);
        int[][] wrong = {{1, DEAD, 0, 0}, {-1, DEAD, 0, 0}, {0, -1, 0, 0}, {0, 5, 0, 0}, {0, STICKS, 3, 0},
            {0, STICKS, -1, 0}, {0, STICKS, 0, 2}, {0, STICKS, 0, -1}, {0, SWAPPED, 1, 1}, {0, SWAPPED, 3, 1},
            {0, SWAPPED, 1, 3}, {0, SWAPPED, -1, 1}, {0, SWAPPED, 1, -1}, {0, DEAD, 3, 0}, {0, DEAD, -1, 0},
            {0, BEGAN, 0, 0}, {0, BEGAN, 0, 1000}, {0, BEGAN, 3, 1}, {0, BEGAN, -1, 1}, {0, OFF, 1, 0},
            {0, OFF, -1, 0}};
        for (int[] w : wrong) {
            Due.is(NONE, x.trouble(w[0], w[1], w[2], w[3]), "trouble " + java.util.Arrays.toString(w));
        }
        Due.is(1, x.fitting(0, NONE), "no fault came");
        Due.is(0, x.trouble(0, DEAD, 2, -77), "dead, with any b");
        Due.is(1, x.trouble(0, OFF, 0, 1234567), "off, with any b");
        Due.is(2, x.trouble(0, BEGAN, 2, 1), "began at 1");
        Due.is(3, x.trouble(0, BEGAN, 2, 999), "began at 999");
        Due.is(4, x.trouble(0, STICKS, 2, 0), "ones stick");
        Due.is(5, x.trouble(0, STICKS, 2, 1), "tens stick");
        Due.is(6, x.trouble(0, SWAPPED, 2, 0), "swapped");
        Due.is(7, x.trouble(0, SWAPPED, 2, 0), "swapped again");
        Due.is(NONE, x.trouble(0, DEAD, 0, 0), "a ninth fault");
        Due.is(1, x.machine(1, 0, 0, 0, 0), "another machine");
        Due.is(0, x.trouble(1, DEAD, 0, 0), "its first fault");
    }

    private static void noFault() {
        LeverCurtain x = booth(4, 7, 2, 10);
        span(x, 0, 0, 0, 0);
        show(x, 0, 10, 7, 3);
        Due.is(1, x.fitting(0, NONE), "20 of 20");
        span(x, 0, 1, 7, 7);
        show(x, 0, 10, 8, 3);
        Due.is(0, x.fitting(0, NONE), "21 of 20");
        span(x, 0, 1, NONE, NONE);
        show(x, 0, 11, 0, 0);
        Due.is(0, x.fitting(0, NONE), "11 of one lever");
        Due.is(NONE, x.sets(0, 0), "fewest, where none fits");
        Due.is(NONE, x.sets(0, 1), "sure, where none fits");
        Due.is(NONE, x.sets(0, 2), "may, where none fits");
        show(x, 0, 1, 0, 0);
        Due.is(NONE, x.span(0, 3, 0), "span of a lever of no office");
        Due.is(NONE, x.span(0, 4, 0), "span of no lever");
        Due.is(NONE, x.span(0, -1, 0), "span of no lever");
        Due.is(NONE, x.span(1, 0, 0), "span on no machine");
        Due.is(NONE, x.span(-1, 0, 0), "span on no machine");
        Due.is(NONE, x.span(0, 0, 2), "span of no what");
        Due.is(NONE, x.span(0, 0, -1), "span of no what");
        Due.is(1, x.office(8, 1), "another office");
        span(x, 0, 3, 0, 0);
        x.show(0, 3, 11);
        span(x, 0, 0, NONE, NONE);
    }

    private static void manyPulls() {
        LeverCurtain x = booth(2, 3, 1, 999);
        show(x, 0, 999, 0);
        span(x, 0, 0, 999, 999);
        x.trouble(0, STICKS, 1, 0);
        span(x, 0, 1, 0, 0);
        show(x, 0, 988, 1);
        span(x, 0, 1, 1, 11);
        show(x, 0, 987, 1);
        span(x, 0, 1, 1, 11);
        show(x, 0, 989, 1);
        span(x, 0, 1, 1, 1);
        x.trouble(0, OFF, 0, 0);
        span(x, 0, 1, 1, 991);
    }

    private static void sticking() {
        LeverCurtain x = booth(2, 3, 2, 130);
        show(x, 0, 5, 30);
        x.trouble(0, STICKS, 0, 0);
        span(x, 0, 0, 5, 125);
        x.trouble(0, STICKS, 1, 1);
        span(x, 0, 1, 30, 130);
        show(x, 0, 5, 31);
        span(x, 0, 1, 31, 31);
        show(x, 0, 10, 31);
        Due.is(2, x.fitting(0, NONE), "10 is not shown by ones that stick");
        Due.is(0, x.fitting(0, 0), "the empty set");
        Due.is(2, x.fitting(0, 1), "the other's tens");
        show(x, 0, 9, 100);
        Due.is(2, x.fitting(0, NONE), "100 is not shown by tens that stick");
        Due.is(1, x.sets(0, 2), "only the ones of 0 may stick");
        x.trouble(0, STICKS, 1, 0);
        show(x, 0, 9, 9);
        Due.yes(x.open(0, 6), "both wheels of 1 stick");
        span(x, 0, 1, 9, 129);
        show(x, 0, 9, 99);
        span(x, 0, 1, NONE, NONE);
        Due.yes(x.open(0, 2), "tens of 1");
        span(x, 0, 1, 99, 99);
    }

    private static void swapping() {
        LeverCurtain x = booth(3, 7, 1, 60);
        show(x, 0, 10, 20, 30);
        x.trouble(0, SWAPPED, 0, 1);
        x.trouble(0, SWAPPED, 1, 2);
        x.open(0, 1);
        span(x, 0, 0, 20, 20);
        span(x, 0, 1, 10, 10);
        span(x, 0, 2, 30, 30);
        x.open(0, 3);
        // 0 and 1 change: 0 has counter 1, 1 has 0; then 1 and 2 change: 1 has counter 2, 2 has 0
        span(x, 0, 0, 20, 20);
        span(x, 0, 1, 30, 30);
        span(x, 0, 2, 10, 10);
        x.trouble(0, STICKS, 1, 0);
        show(x, 0, 10, 3, 30);
        Due.yes(x.open(0, 7), "the counter of 1 sticks, which 0 has");
        span(x, 0, 0, 3, 13);
        span(x, 0, 1, 30, 30);
        Due.is(8, x.fitting(0, NONE), "each of these fits");
    }

    private static void dying() {
        LeverCurtain x = booth(2, 3, 1, 60);
        show(x, 0, 0, 20);
        x.trouble(0, DEAD, 0, 0);
        span(x, 0, 0, 0, 40);
        span(x, 0, 1, 20, 20);
        x.trouble(0, DEAD, 1, 0);
        Due.is(2, x.fitting(0, NONE), "a counter that moved is not dead");
        show(x, 0, 0, 0);
        Due.is(4, x.fitting(0, NONE), "none moved");
        span(x, 0, 1, 0, 60);
        x.trouble(0, SWAPPED, 0, 1);
        show(x, 0, 0, 20);
        Due.yes(x.open(0, 5), "the dead counter is the other lever's");
        span(x, 0, 0, 20, 20);
        span(x, 0, 1, 0, 40);
        x.trouble(0, BEGAN, 0, 7);
        x.open(0, NONE);
        show(x, 0, 7, 20);
        Due.yes(x.open(0, 9), "dead where it began");
        span(x, 0, 0, 0, 40);
        Due.yes(x.open(0, 8), "began alone");
        span(x, 0, 0, 0, 0);
        Due.no(x.open(0, 1), "dead alone");
        x.trouble(0, STICKS, 0, 0);
        x.trouble(0, BEGAN, 0, 215);
        show(x, 0, 5, 20);
        Due.yes(x.open(0, 1 | 16 | 32), "dead, began at 215, and its ones stick");
        Due.yes(x.open(0, 1 | 16 | 32 | 8), "the latest told counts");
        Due.no(x.open(0, 1 | 32), "dead, began at 215, with all its wheels");
        show(x, 0, 215, 20);
        Due.yes(x.open(0, 1 | 32), "dead at 215");
        Due.no(x.open(0, 1 | 16 | 32), "its ones stick at 215");
    }

    private static void beginning() {
        LeverCurtain x = booth(2, 3, 2, 500);
        show(x, 0, 100, 0);
        x.trouble(0, BEGAN, 0, 700);
        span(x, 0, 0, 100, 400);
        x.trouble(0, BEGAN, 0, 30);
        x.open(0, 2);
        span(x, 0, 0, 70, 70);
        x.open(0, 3);
        span(x, 0, 0, 70, 70);
        x.trouble(0, STICKS, 0, 1);
        show(x, 0, 10, 0);
        Due.yes(x.open(0, 7), "began at 30, and its tens stick");
        span(x, 0, 0, 80, 480);
        show(x, 0, 30, 0);
        span(x, 0, 0, 0, 500);
        show(x, 0, 31, 0);
        span(x, 0, 0, 1, 401);
    }

    private static void straps() {
        LeverCurtain x = booth(4, 3, 1, 50);
        x.office(12, 1);
        show(x, 0, 40, 11, 20, 20);
        Due.is(0, x.fitting(0, NONE), "51 of 50");
        x.trouble(0, OFF, 1, 0);
        Due.is(0, x.fitting(0, NONE), "the other office's straps");
        x.trouble(0, OFF, 0, 0);
        Due.is(2, x.fitting(0, NONE), "its own straps were off");
        Due.is(2, x.sets(0, 0), "fewest");
        Due.is(2, x.sets(0, 1), "sure");
        Due.is(3, x.sets(0, 2), "may");
        show(x, 0, 51, 0, 0, 0);
        Due.is(0, x.fitting(0, NONE), "no lever is pulled more often than there are voters");
        show(x, 0, 5, 0, 0, 0);
        x.trouble(0, STICKS, 0, 0);
        x.trouble(0, DEAD, 1, 0);
        x.open(0, 12);
        span(x, 0, 0, 5, 45);
        span(x, 0, 1, 0, 45);
        x.open(0, 14);
        span(x, 0, 0, 5, 45);
        span(x, 0, 1, 0, 50);
        x.open(0, 13);
        span(x, 0, 1, 0, 45);
    }

    private static void combined() {
        LeverCurtain x = booth(2, 3, 1, 120);
        show(x, 0, 5, 40);
        x.trouble(0, STICKS, 0, 0);
        x.trouble(0, STICKS, 1, 1);
        span(x, 0, 0, 5, 75);
        span(x, 0, 1, 40, 40);
        Due.is(-35, x.ahead(0, 1), "0 at its least");
        Due.is(-35, x.ahead(1, 0), "0 at its greatest: 40 less 75");
    }

    private static void leversOfNoOffice() {
        LeverCurtain x = booth(4, 3, 1, 10);
        show(x, 0, 1, 2, 500, 600);
        Due.is(1, x.fitting(0, NONE), "counters of no office's levers are not asked");
        x.trouble(0, SWAPPED, 0, 2);
        Due.no(x.open(0, 1), "the lever of an office has counter 2, which shows 500");
        show(x, 0, 700, 2, 4, 600);
        Due.yes(x.open(0, 1), "counter 0 is no office's lever's then");
        span(x, 0, 0, 4, 4);
        x.trouble(0, DEAD, 3, 0);
        Due.yes(x.open(0, 3), "dead, but of no office");
    }

    private static void fittingByNumbers() {
        LeverCurtain x = booth(3, 1, 1, 10);
        Due.is(1, x.fitting(0, NONE), "the empty set");
        Due.is(0, x.fitting(0, 0), "fitting 0");
        for (int i = 0; i < 8; i++) {
            Due.is(i, x.trouble(0, DEAD, i == 3 ? 0 : 2, 0), "trouble " + i);
        }
        Due.is(256, x.fitting(0, NONE), "all sets");
        Due.is(255, x.fitting(0, 255), "the last");
        Due.is(NONE, x.fitting(0, 256), "behind the last");
        Due.is(NONE, x.fitting(0, -2), "before the first");
        Due.is(NONE, x.fitting(1, NONE), "of no machine");
        Due.is(NONE, x.fitting(-1, 0), "of no machine");
        show(x, 0, 1);
        Due.is(128, x.fitting(0, NONE), "all sets without fault 3");
        Due.is(16, x.fitting(0, 8), "the ninth of them");
        Due.is(247, x.fitting(0, 127), "the last of them");
        Due.is(NONE, x.fitting(0, 128), "behind it");
        Due.is(247, x.sets(0, 2), "may");
    }

    private static void choosing() {
        LeverCurtain x = booth(3, 7, 1, 9);
        show(x, 0, 3, 4, 5);
        x.trouble(0, BEGAN, 0, 1);
        x.trouble(0, BEGAN, 1, 2);
        x.trouble(0, BEGAN, 2, 2);
        x.trouble(0, BEGAN, 0, 2);
        // three too many: by what the counters began at
        Due.is(0b0011, x.sets(0, 0), "fewest: two that come to three");
        Due.is(0, x.sets(0, 1), "sure");
        Due.is(15, x.sets(0, 2), "may");
        x.trouble(0, OFF, 0, 0);
        Due.is(0b10000, x.sets(0, 0), "fewest: one alone");
        Due.is(NONE, x.sets(0, 3), "no such what");
        Due.is(NONE, x.sets(0, -1), "no such what");
        Due.is(NONE, x.sets(1, 0), "no such machine");
        Due.is(NONE, x.sets(-1, 0), "no such machine");
        LeverCurtain none = booth(2, 3, 1, 9);
        show(none, 0, 5, 0);
        none.trouble(0, DEAD, 0, 0);
        for (int what = 0; what < 3; what++) {
            Due.is(0, none.sets(0, what), "no fault is the only set that fits");
        }
        LeverCurtain y = booth(3, 7, 1, 9);
        show(y, 0, 3, 4, 5);
        y.trouble(0, BEGAN, 1, 1);
        y.trouble(0, BEGAN, 0, 2);
        y.trouble(0, BEGAN, 2, 2);
        y.trouble(0, BEGAN, 1, 3);
        Due.is(0b1000, y.sets(0, 0), "one alone, though the latest");
        Due.yes(y.show(0, 1, 5), "show");
        // four too many: 0 and 3, 1 and 2, 1 and 3, 2 and 3 would do (0 and 3 are of one counter: 3 counts)
        Due.is(0b0110, y.sets(0, 0), "1 and 2 before 1 and 3");
        y.trouble(0, BEGAN, 2, 4);
        Due.is(0b10000, y.sets(0, 0), "one alone");
        y.show(0, 1, 6);
        // five too many: 0 and 4, 1 and 3, 1 and 4, 2 and 3, 3 and 4 would do
        Due.is(0b10001, y.sets(0, 0), "0 and 4 before 1 and 3");
    }

    private static void opening() {
        LeverCurtain x = booth(2, 3, 1, 100);
        show(x, 0, 40, 30);
        x.trouble(0, SWAPPED, 0, 1);
        Due.yes(x.open(0, NONE), "shut, though it never was open");
        Due.no(x.open(1, NONE), "no such machine");
        Due.no(x.open(-1, 0), "no such machine");
        Due.no(x.open(0, 2), "no such set");
        Due.no(x.open(0, -2), "no such set");
        Due.yes(x.open(0, 1), "opened");
        span(x, 0, 0, 30, 30);
        Due.is(2, x.fitting(0, NONE), "fitting is of all sets");
        Due.is(0, x.sets(0, 0), "fewest is of all sets");
        Due.is(0, x.sets(0, 1), "sure is of all sets");
        Due.is(1, x.sets(0, 2), "may is of all sets");
        Due.is(-10, x.ahead(0, 1), "ahead by the set told");
        Due.is(1, x.wins(0), "wins by the set told");
        Due.yes(x.open(0, 0), "opened with no fault");
        Due.is(10, x.ahead(0, 1), "ahead by that");
        Due.yes(x.open(0, NONE), "shut again");
        span(x, 0, 0, 30, 40);
        Due.is(NONE, x.wins(0), "none is sure then");
        x.trouble(0, STICKS, 0, 0);
        Due.yes(x.open(0, 1), "opened again");
        show(x, 0, 4, 30);
        Due.no(x.open(0, 16), "no such fault");
        span(x, 0, 0, 30, 30);
        show(x, 0, 4, 101);
        Due.is(0, x.fitting(0, NONE), "none fits");
        show(x, 0, 101, 0);
        Due.is(0, x.fitting(0, NONE), "none fits");
        x.trouble(0, BEGAN, 0, 1);
        Due.is(2, x.fitting(0, NONE), "with where it began some fit");
        span(x, 0, 0, NONE, NONE);
        Due.is(NONE, x.total(0, 0), "the set told does not fit: none counts");
        Due.is(HIDDEN, x.ahead(0, 1), "the set told does not fit: none counts");
        Due.is(NONE, x.wins(0), "the set told does not fit: none counts");
        Due.is(NONE, x.till(0, 0), "it is opened already");
        show(x, 0, 40, 30);
        span(x, 0, 0, 30, 30);
    }

    private static void totals() {
        LeverCurtain x = booth(3, 3, 1, 100);
        x.machine(50, 0, 0, 0, 0);
        show(x, 0, 40, 30);
        show(x, 1, 5, 6);
        x.trouble(1, STICKS, 0, 0);
        x.trouble(0, SWAPPED, 0, 1);
        Due.is(35, x.total(0, 0), "30 and 5");
        Due.is(75, x.total(0, 1), "40 and 35");
        Due.is(36, x.total(1, 0), "30 and 6");
        Due.is(46, x.total(1, 1), "40 and 6");
        Due.is(NONE, x.total(2, 0), "a lever of no office");
        Due.is(NONE, x.total(3, 0), "no such lever");
        Due.is(NONE, x.total(-1, 0), "no such lever");
        Due.is(NONE, x.total(0, 2), "no such what");
        Due.is(NONE, x.total(0, -1), "no such what");
        show(x, 1, 5, 60);
        Due.is(NONE, x.total(0, 0), "of machine 1 no set fits");
    }

    private static void leads() {
        LeverCurtain x = booth(5, 7, 1, 100);
        x.office(8, 1);
        x.machine(100, 0, 0, 0, 0);
        show(x, 0, 30, 20, 4);
        show(x, 1, 5, 25, 4);
        Due.is(-10, x.ahead(0, 1), "10 and -20");
        Due.is(10, x.ahead(1, 0), "-10 and 20");
        Due.is(27, x.ahead(0, 2), "26 and 1");
        x.trouble(0, DEAD, 2, 0);
        Due.is(27, x.ahead(0, 2), "a dead counter shows 0");
        x.show(0, 2, 0);
        Due.is(31 - 50, x.ahead(0, 2), "30 less 50, and 1");
        Due.is(-31, x.ahead(2, 0), "0 less 30, and -1");
        int[][] hidden = {{0, 0}, {0, 3}, {3, 0}, {0, 4}, {4, 0}, {4, 4}, {0, 5}, {5, 0}, {-1, 0}, {0, -1}, {3, 3}};
        for (int[] pair : hidden) {
            Due.is(HIDDEN, x.ahead(pair[0], pair[1]), "ahead " + pair[0] + ", " + pair[1]);
        }
        x.show(1, 3, 101);
        Due.is(HIDDEN, x.ahead(0, 1), "of machine 1 no set fits, by another office");
    }

    private static void winners() {
        LeverCurtain x = booth(5, 7, 1, 100);
        x.office(8, 1);
        show(x, 0, 30, 29, 28, 7);
        Due.is(0, x.wins(0), "by one");
        Due.is(3, x.wins(1), "one alone");
        Due.is(NONE, x.wins(2), "no such office");
        Due.is(NONE, x.wins(-1), "no such office");
        show(x, 0, 29, 29, 28, 7);
        Due.is(NONE, x.wins(0), "as many");
        show(x, 0, 28, 29, 30, 7);
        Due.is(2, x.wins(0), "the last");
        x.machine(100, 0, 0, 0, 0);
        show(x, 1, 0, 3, 0);
        Due.is(1, x.wins(0), "over both machines");
        x.show(1, 3, 101);
        Due.is(NONE, x.wins(0), "of machine 1 no set fits");
        Due.is(NONE, x.wins(1), "of machine 1 no set fits, though it is alone");
    }

    private static void costs() {
        LeverCurtain x = booth(2, 3, 1, 10);
        Due.no(x.cost(0, 0), "cost 0");
        Due.no(x.cost(0, 51), "cost 51");
        Due.no(x.cost(0, -1), "cost -1");
        Due.no(x.cost(1, 1), "no such machine");
        Due.no(x.cost(-1, 1), "no such machine");
        Due.yes(x.cost(0, 1), "cost 1");
        show(x, 0, 5, 3);
        x.trouble(0, SWAPPED, 0, 1);
        Due.is(1, x.till(0, 1), "till by cost 1");
        Due.yes(x.cost(0, 50), "cost 50");
        Due.is(50, x.till(0, 1), "till by cost 50");
    }

    /** MACHINES that show these of LEVERS 0 and 1, each perhaps with both SWAPPED. */
    private static LeverCurtain doubtful(int[]... shown) {
        LeverCurtain x = new LeverCurtain(3);
        x.office(3, 1);
        for (int machine = 0; machine < shown.length; machine++) {
            Due.is(machine, x.machine(500, 0, 0, 0, 0), "machine");
            show(x, machine, shown[machine]);
            Due.is(0, x.trouble(machine, SWAPPED, 0, 1), "trouble");
        }
        return x;
    }

    private static void till(LeverCurtain x, int lever, int set, int cost) {
        Due.is(set, x.till(lever, 0), "till(" + lever + ", 0)");
        Due.is(cost, x.till(lever, 1), "till(" + lever + ", 1)");
    }

    private static void tills() {
        LeverCurtain x = doubtful(new int[] {40, 30}, new int[] {9, 0});
        till(x, 0, 0b01, 1);
        till(x, 1, NONE, NONE);
        Due.is(NONE, x.till(2, 0), "a lever of no office");
        Due.is(NONE, x.till(3, 0), "no such lever");
        Due.is(NONE, x.till(-1, 0), "no such lever");
        Due.is(NONE, x.till(0, 2), "no such what");
        Due.is(NONE, x.till(0, -1), "no such what");
        x.open(0, 0);
        till(x, 0, 0, 0);
        x.open(0, 1);
        till(x, 0, NONE, NONE);
        x.open(0, NONE);
        x.show(0, 2, 999);
        till(x, 0, 0b01, 1);
        x.show(1, 0, 501);
        till(x, 0, NONE, NONE);
    }

    private static void tillChoices() {
        LeverCurtain x = doubtful(new int[] {10, 0}, new int[] {10, 0}, new int[] {10, 0}, new int[] {10, 0});
        till(x, 0, 0b0111, 3);
        x.cost(0, 2);
        till(x, 0, 0b1110, 3);
        x.cost(3, 2);
        till(x, 0, 0b0111, 4);
        LeverCurtain y = doubtful(new int[] {20, 0}, new int[] {20, 0}, new int[] {30, 0}, new int[] {30, 0});
        // all doubtful: 100 behind; each opened brings twice its own
        till(y, 0, 0b1100, 2);
        y.cost(3, 3);
        till(y, 0, 0b0111, 3);
        y.cost(2, 2);
        y.cost(3, 2);
        till(y, 0, 0b1100, 4);
        y.cost(2, 3);
        y.cost(0, 1);
        y.cost(1, 1);
        till(y, 0, 0b1011, 4);
        y.cost(3, 1);
        y.cost(2, 2);
        // 0, 1 and 3 for 3; 2 and 3 for 3 as well: the fewer
        till(y, 0, 0b1100, 3);
        y.open(3, 0);
        till(y, 0, 0b0100, 2);
        y.open(0, 0);
        till(y, 0, 0b0010, 1);
        y.open(2, 1);
        till(y, 0, 0b0010, 1);
        LeverCurtain z = doubtful(new int[] {30, 0}, new int[] {25, 0}, new int[] {25, 0}, new int[] {30, 0});
        // 110 behind: 0 and 3 bring 120, 0 with 1 just 110, which is no lead
        till(z, 0, 0b1001, 2);
        z.show(1, 0, 28);
        till(z, 0, 0b0011, 2);
    }

    private static void lastMachine() {
        LeverCurtain x = new LeverCurtain(16);
        x.office(3 << 14, 1);
        for (int machine = 0; machine < 6; machine++) {
            x.machine(900, 0, 0, 0, 0);
            show(x, machine, 1, 2, 3, 4, 5, 6, 7, 8, 9, 10, 11, 12, 13, 14, 100 + machine, 50);
            for (int fault = 0; fault < 7; fault++) {
                Due.is(fault, x.trouble(machine, DEAD, fault, 0), "trouble");
            }
            Due.is(7, x.trouble(machine, SWAPPED, 15, 14), "trouble");
            Due.is(256, x.fitting(machine, NONE), "fitting on machine " + machine);
            span(x, machine, 14, 50, 100 + machine);
            Due.yes(x.cost(machine, 10 + machine), "cost");
        }
        Due.is(300, x.total(14, 0), "50 on each");
        Due.is(615, x.total(14, 1), "100 and more on each");
        Due.is(-315, x.ahead(14, 15), "all swapped");
        // each opened brings twice 50 and its number: three of numbers that come to eight bring 316
        till(x, 14, 0b101001, 10 + 13 + 15);
        Due.yes(x.open(5, 0), "open");
        till(x, 14, 0b001001, 10 + 13);
        Due.yes(x.open(5, 128), "open");
        till(x, 15, NONE, NONE);
    }

    private static void votersByLaw() {
        LeverCurtain x = booth(2, 3, 1, 40);
        show(x, 0, 30, 5);
        x.trouble(0, DEAD, 1, 0);
        x.trouble(0, STICKS, 1, 0);
        span(x, 0, 1, 5, 5);
        Due.tape(x, "y:s/2+15");
        x.law();
        x.use(0);
        span(x, 0, 1, 5, 5);
        span(x, 0, 0, 30, 30);
        Due.is(2, x.fitting(0, NONE), "35 of 35");
        x.use(NONE);
        x.show(0, 1, 0);
        span(x, 0, 1, 0, 10);
        x.use(0);
        span(x, 0, 1, 0, 5);
        Due.tape(x, "y:s/2");
        x.law();
        x.use(1);
        Due.is(0, x.fitting(0, NONE), "30 of 20");
    }
}
