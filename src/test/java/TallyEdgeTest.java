/**
 * The boundaries of promises 22 to 28: SPANS, MACHINES that are OPENED, TOTALS, who is AHEAD, who WINS, COSTS,
 * and which to OPEN. The number before each text is that of the promise.
 */
public final class TallyEdgeTest {
    private static final int NONE = LeverCurtain.NONE;
    private static final int HIDDEN = LeverCurtain.HIDDEN;
    private static final int LOW = Integer.MIN_VALUE;
    private static final int TOP = Integer.MAX_VALUE;
    private static final int STICKS = 0;
    private static final int SWAPPED = 1;
    private static final int DEAD = 2;
    private static final int BEGAN = 3;
    private static final int OFF = 4;

    public static void main(String[] args) {
        spanNone();
        spanOverSets();
        spanShared();
        openNone();
        openRefusedStays();
        openedAlone();
        openedThatFitsNoMore();
        openedWithOthersToldLater();
        totalOfNoMachine();
        totalOfSix();
        totalOfMachinesApart();
        totalNone();
        aheadOfNoMachine();
        aheadHidden();
        aheadExtremes();
        aheadByOneSetAndRow();
        winsByOne();
        winsNone();
        winsAlone();
        costWithin();
        tillNoneNeeded();
        tillNone();
        tillByFewest();
        tillLeastCost();
        tillFewestThenLower();
        tillNotOpened();
        tillOfSix();
        Due.end();
    }

    private static LeverCurtain booth(int levers, int office, int k, int... voters) {
        LeverCurtain x = new LeverCurtain(levers);
        Due.is(0, x.office(office, k), "2: office");
        for (int machine = 0; machine < voters.length; machine++) {
            Due.is(machine, x.machine(voters[machine], 0, 0, 0, 0), "15: machine");
        }
        return x;
    }

    private static void show(LeverCurtain x, int machine, int... numbers) {
        for (int lever = 0; lever < numbers.length; lever++) {
            Due.yes(x.show(machine, lever, numbers[lever]), "18: show");
        }
    }

    private static void trouble(LeverCurtain x, int machine, int kind, int a, int b) {
        Due.yes(x.trouble(machine, kind, a, b) >= 0, "19: trouble " + kind + ", " + a + ", " + b);
    }

    private static void span(LeverCurtain x, int machine, int lever, int least, int most, String what) {
        Due.is(least, x.span(machine, lever, 0), "22: the least of lever " + lever + ": " + what);
        Due.is(most, x.span(machine, lever, 1), "22: the greatest of lever " + lever + ": " + what);
    }

    private static void total(LeverCurtain x, int lever, int least, int most, String what) {
        Due.is(least, x.total(lever, 0), "24: the least of lever " + lever + ": " + what);
        Due.is(most, x.total(lever, 1), "24: the greatest of lever " + lever + ": " + what);
    }

    private static void till(LeverCurtain x, int lever, int set, int cost, String what) {
        Due.is(set, x.till(lever, 0), "28: till(" + lever + ", 0): " + what);
        Due.is(cost, x.till(lever, 1), "28: till(" + lever + ", 1): " + what);
    }

    private static void spanNone() {
        LeverCurtain x = booth(4, 7, 1, 10);
        for (int machine : new int[] {LOW, -1, 1, 6, TOP}) {
            Due.is(NONE, x.span(machine, 0, 0), "22: machine " + machine);
        }
        for (int lever : new int[] {LOW, -1, 3, 4, 16, TOP}) {
            Due.is(NONE, x.span(0, lever, 0), "22: lever " + lever);
            Due.is(NONE, x.total(lever, 0), "24: lever " + lever);
            Due.is(NONE, x.till(lever, 0), "28: lever " + lever);
        }
        for (int what : new int[] {LOW, -1, 2, TOP}) {
            Due.is(NONE, x.span(0, 0, what), "22: what " + what);
            Due.is(NONE, x.total(0, what), "24: what " + what);
            Due.is(NONE, x.till(0, what), "28: what " + what);
        }
        show(x, 0, 4, 3, 3);
        span(x, 0, 0, 4, 4, "ten of ten");
        span(x, 0, 2, 3, 3, "ten of ten");
        show(x, 0, 4, 3, 4);
        span(x, 0, 0, NONE, NONE, "eleven of ten");
    }

    private static void spanOverSets() {
        LeverCurtain x = booth(2, 3, 1, 100);
        show(x, 0, 40, 20);
        trouble(x, 0, SWAPPED, 0, 1);
        span(x, 0, 0, 20, 40, "20 or 40");
        trouble(x, 0, BEGAN, 0, 15);
        span(x, 0, 0, 20, 40, "20, 25 or 40");
        span(x, 0, 1, 20, 40, "20, 25 or 40");
        trouble(x, 0, BEGAN, 0, 39);
        span(x, 0, 0, 1, 40, "1, 20, 25 or 40");
        trouble(x, 0, BEGAN, 0, 40);
        span(x, 0, 0, 0, 40, "0, 1, 20, 25 or 40");
    }

    /** A LEVER's greatest is what the others of its OFFICE leave at their least. */
    private static void spanShared() {
        LeverCurtain x = booth(4, 7, 1, 50);
        trouble(x, 0, STICKS, 0, 0);
        trouble(x, 0, STICKS, 1, 0);
        show(x, 0, 3, 4, 8);
        span(x, 0, 0, 3, 33, "4 and 8 leave 38");
        span(x, 0, 1, 4, 34, "3 and 8 leave 39");
        x.show(0, 2, 13);
        span(x, 0, 0, 3, 33, "just 33 are left");
        x.show(0, 2, 14);
        span(x, 0, 0, 3, 23, "32 are left");
        x.show(0, 2, 43);
        span(x, 0, 0, 3, 3, "just 3 are left");
        x.show(0, 2, 44);
        span(x, 0, 0, NONE, NONE, "2 are left");
        LeverCurtain two = booth(2, 3, 2, 50);
        trouble(two, 0, DEAD, 0, 0);
        show(two, 0, 0, 50);
        span(two, 0, 0, 0, 50, "K 2: all are left");
        LeverCurtain off = booth(2, 3, 1, 50);
        trouble(off, 0, DEAD, 0, 0);
        trouble(off, 0, OFF, 0, 0);
        show(off, 0, 0, 30);
        Due.yes(off.open(0, 1), "23: dead");
        span(off, 0, 0, 0, 20, "what is left");
        Due.yes(off.open(0, 3), "23: dead and off");
        span(off, 0, 0, 0, 50, "straps off: as many as voters");
    }

    private static void openNone() {
        LeverCurtain x = booth(2, 3, 1, 50, 50);
        Due.yes(x.open(0, NONE), "23: shut, though it never was opened");
        Due.yes(x.open(0, 0), "23: with no fault");
        Due.yes(x.open(0, NONE), "23: shut again");
        Due.yes(x.open(0, NONE), "23: once more");
        show(x, 0, 51);
        Due.no(x.open(0, 0), "23: it does not fit");
        Due.yes(x.open(0, NONE), "23: shut, where none fits");
        for (int machine : new int[] {LOW, -1, 2, 6, TOP}) {
            Due.no(x.open(machine, NONE), "23: shut machine " + machine);
            Due.no(x.open(machine, 0), "23: machine " + machine);
        }
        for (int set : new int[] {LOW, -2, 1, 2, 256, TOP}) {
            Due.no(x.open(1, set), "23: set " + set);
        }
        Due.yes(x.open(1, 0), "23: the empty set");
        trouble(x, 1, DEAD, 0, 0);
        Due.yes(x.open(1, 1), "23: the last set of one fault");
        Due.no(x.open(1, 2), "23: no such set of one fault");
    }

    private static void openRefusedStays() {
        LeverCurtain x = booth(2, 3, 1, 50);
        show(x, 0, 30, 5);
        trouble(x, 0, SWAPPED, 0, 1);
        trouble(x, 0, DEAD, 0, 0);
        Due.yes(x.open(0, 1), "23: swapped");
        for (int set : new int[] {2, 3, 4, -2, TOP}) {
            Due.no(x.open(0, set), "23: set " + set);
            span(x, 0, 0, 5, 5, "swapped still");
        }
        Due.yes(x.open(0, 0), "23: with no fault");
        Due.no(x.open(0, 2), "23: dead");
        span(x, 0, 0, 30, 30, "with no fault still");
    }

    private static void openedAlone() {
        LeverCurtain x = booth(2, 3, 1, 50, 50);
        show(x, 0, 30, 5);
        trouble(x, 0, SWAPPED, 0, 1);
        show(x, 1, 3, 2);
        Due.yes(x.open(0, 1), "23: swapped");
        span(x, 0, 0, 5, 5, "by that alone");
        total(x, 0, 8, 8, "by that alone");
        Due.is(-24, x.ahead(0, 1), "25: by that alone");
        Due.is(24, x.ahead(1, 0), "25: by that alone");
        Due.is(1, x.wins(0), "26: by that alone");
        Due.is(2, x.fitting(0, NONE), "20: of all sets");
        Due.is(0, x.fitting(0, 0), "20: of all sets");
        Due.is(1, x.fitting(0, 1), "20: of all sets");
        Due.is(0, x.sets(0, 0), "21: of all sets");
        Due.is(0, x.sets(0, 1), "21: of all sets");
        Due.is(1, x.sets(0, 2), "21: of all sets");
        Due.yes(x.open(0, NONE), "23: shut again");
        span(x, 0, 0, 5, 30, "by both sets");
        total(x, 0, 8, 33, "by both sets");
        Due.is(-24, x.ahead(0, 1), "25: by both sets");
        Due.is(-26, x.ahead(1, 0), "25: by both sets");
        Due.is(NONE, x.wins(0), "26: by both sets");
    }

    private static void openedThatFitsNoMore() {
        LeverCurtain x = booth(2, 3, 1, 50);
        show(x, 0, 60, 5);
        trouble(x, 0, BEGAN, 0, 30);
        trouble(x, 0, BEGAN, 0, 20);
        Due.yes(x.open(0, 2), "23: began at 20");
        span(x, 0, 0, 40, 40, "began at 20");
        show(x, 0, 71, 5);
        Due.is(1, x.fitting(0, NONE), "20: the other alone");
        Due.is(1, x.sets(0, 0), "21: the other alone");
        span(x, 0, 0, NONE, NONE, "the set told does not fit");
        total(x, 0, NONE, NONE, "the set told does not fit");
        Due.is(HIDDEN, x.ahead(0, 1), "25: the set told does not fit");
        Due.is(HIDDEN, x.joinedAhead(0, 1), "44: the set told does not fit");
        Due.is(NONE, x.wins(0), "26: the set told does not fit");
        till(x, 0, NONE, NONE, "the set told does not fit");
        show(x, 0, 70, 0);
        span(x, 0, 0, 50, 50, "it fits again");
        show(x, 0, 71, 5);
        Due.yes(x.open(0, NONE), "23: shut again");
        span(x, 0, 0, 41, 41, "the other");
        Due.is(36, x.ahead(0, 1), "25: the other");
    }

    private static void openedWithOthersToldLater() {
        LeverCurtain x = booth(2, 3, 1, 50);
        show(x, 0, 5, 6);
        Due.yes(x.open(0, 0), "23: with no fault");
        trouble(x, 0, STICKS, 0, 0);
        span(x, 0, 0, 5, 5, "with no fault still");
        Scene.law(x, "y:s/5");
        x.use(0);
        span(x, 0, 0, NONE, NONE, "eleven of ten voters");
        Scene.law(x, "y:s/5+1");
        x.use(1);
        span(x, 0, 0, 5, 5, "eleven of eleven voters");
    }

    private static void totalOfNoMachine() {
        LeverCurtain x = booth(3, 3, 1);
        total(x, 0, 0, 0, "no machine");
        total(x, 2, NONE, NONE, "a lever of no office");
    }

    private static void totalOfSix() {
        LeverCurtain x = booth(16, 1 << 15, 1, 999, 999, 999, 999, 999, 999);
        total(x, 15, 0, 0, "nothing is shown");
        for (int machine = 0; machine < 6; machine++) {
            x.show(machine, 15, 999);
            total(x, 15, 999 * (machine + 1), 999 * (machine + 1), "as much as can be");
        }
        trouble(x, 5, BEGAN, 15, 999);
        total(x, 15, 999 * 5, 999 * 6, "0 or 999 on the last");
    }

    private static void totalOfMachinesApart() {
        LeverCurtain x = booth(2, 3, 1, 51, 51);
        show(x, 0, 5, 6);
        trouble(x, 1, DEAD, 0, 0);
        trouble(x, 1, DEAD, 1, 0);
        Due.yes(x.open(1, 3), "23: both dead");
        total(x, 0, 5, 56, "5, and what can be with both dead");
        total(x, 1, 6, 57, "6, and what can be with both dead");
        span(x, 0, 0, 5, 5, "as shown");
        span(x, 1, 0, 0, 51, "dead");
        Due.is(5 - 6 - 51, x.ahead(0, 1), "25: the other has all");
    }

    private static void totalNone() {
        for (int machine = 0; machine < 6; machine++) {
            LeverCurtain x = booth(2, 3, 1, 9, 9, 9, 9, 9, 9);
            x.show(machine, 1, 9);
            total(x, 0, 0, 0, "all fit");
            x.show(machine, 1, 10);
            total(x, 0, NONE, NONE, "none fits of machine " + machine);
            Due.is(HIDDEN, x.ahead(0, 1), "25: none fits of machine " + machine);
            Due.is(NONE, x.wins(0), "26: none fits of machine " + machine);
            till(x, 0, NONE, NONE, "none fits of machine " + machine);
        }
    }

    private static void aheadOfNoMachine() {
        LeverCurtain x = booth(4, 7, 1);
        Due.is(0, x.ahead(0, 1), "25: no machine");
        Due.is(0, x.ahead(2, 0), "25: no machine");
        Due.is(HIDDEN, x.ahead(1, 1), "25: alike");
        Due.is(HIDDEN, x.ahead(1, 3), "25: one of no office");
    }

    private static void aheadHidden() {
        LeverCurtain x = booth(6, 0b00011, 1, 10);
        x.office(0b01100, 1);
        int[][] hidden = {{0, 0}, {0, 2}, {2, 0}, {1, 3}, {0, 4}, {4, 0}, {4, 4}, {4, 5}, {0, 6}, {6, 0}, {0, -1},
            {-1, 0}, {-1, -1}, {LOW, 0}, {0, TOP}, {TOP, LOW}, {16, 17}};
        for (int[] pair : hidden) {
            Due.is(HIDDEN, x.ahead(pair[0], pair[1]), "25: " + java.util.Arrays.toString(pair));
            Due.is(HIDDEN, x.joinedAhead(pair[0], pair[1]), "44: " + java.util.Arrays.toString(pair));
        }
        Due.is(0, x.ahead(0, 1), "25: of one office");
        Due.is(0, x.ahead(3, 2), "25: of the other");
        x.show(0, 2, 11);
        Due.is(HIDDEN, x.ahead(0, 1), "25: none fits, by the other office");
    }

    private static void aheadExtremes() {
        LeverCurtain x = booth(2, 3, 2, 999, 999, 999, 999, 999, 999);
        for (int machine = 0; machine < 6; machine++) {
            x.show(machine, 0, 999);
        }
        Due.is(5994, x.ahead(0, 1), "25: as far as can be");
        Due.is(-5994, x.ahead(1, 0), "25: as far behind as can be");
        Due.is(0, x.wins(0), "26: as far as can be");
        x.absent(0, 0, 9999);
        x.absent(1, 9999, 9999);
        Due.is(5994 - 9999, x.joinedAhead(0, 1), "44: less all absent ones");
        Due.is(-5994, x.joinedAhead(1, 0), "44: 9999 of each");
        x.absent(1, 0, 9999);
        Due.is(-5994 - 9999, x.joinedAhead(1, 0), "44: as far behind as can be");
        x.absent(0, 9999, 9999);
        x.absent(1, 0, 0);
        Due.is(5994 + 9999, x.joinedAhead(0, 1), "44: as far as can be");
    }

    /** On one MACHINE a's least and b's greatest are of the same set, on two each of its own. */
    private static void aheadByOneSetAndRow() {
        LeverCurtain x = booth(2, 3, 1, 100, 100);
        show(x, 0, 30, 20);
        trouble(x, 0, SWAPPED, 0, 1);
        Due.is(-10, x.ahead(0, 1), "25: 20 and 30, not 20 and 20");
        show(x, 1, 40, 10);
        trouble(x, 1, SWAPPED, 0, 1);
        Due.is(-10 - 30, x.ahead(0, 1), "25: each machine by its own set");
        trouble(x, 1, BEGAN, 0, 40);
        Due.is(-10 - 30, x.ahead(0, 1), "25: 0 and 10 is no less");
        show(x, 1, 40, 41);
        Due.is(-10 - 41, x.ahead(0, 1), "25: 0 and 41");
        Due.is(-10 - 41, x.ahead(1, 0), "25: 0 and 41 by both faults");
        LeverCurtain row = booth(2, 3, 1, 30);
        trouble(row, 0, DEAD, 0, 0);
        trouble(row, 0, DEAD, 1, 0);
        Due.is(-30, row.ahead(0, 1), "25: 0 and 30 of thirty");
        show(row, 0, 0, 10);
        Due.is(-10, row.ahead(0, 1), "25: 0 and 10");
        Due.is(-10, row.ahead(1, 0), "25: 10 and 20 of thirty");
    }

    private static void winsByOne() {
        LeverCurtain x = booth(4, 7, 3, 50);
        show(x, 0, 11, 10, 10);
        Due.is(0, x.wins(0), "26: by one of each other");
        show(x, 0, 11, 11, 10);
        Due.is(NONE, x.wins(0), "26: as many as one of them");
        show(x, 0, 11, 12, 10);
        Due.is(1, x.wins(0), "26: the second by one");
        show(x, 0, 11, 12, 12);
        Due.is(NONE, x.wins(0), "26: two alike");
        show(x, 0, 11, 12, 13);
        Due.is(2, x.wins(0), "26: the last by one");
        show(x, 0, 0, 0, 0);
        Due.is(NONE, x.wins(0), "26: none at all");
        show(x, 0, 0, 0, 1);
        Due.is(2, x.wins(0), "26: one at all");
    }

    private static void winsNone() {
        LeverCurtain x = booth(4, 3, 1, 50);
        for (int office : new int[] {LOW, -1, 1, 6, TOP}) {
            Due.is(NONE, x.wins(office), "26: office " + office);
        }
        Due.is(NONE, x.wins(0), "26: alike");
        show(x, 0, 6, 5);
        Due.is(0, x.wins(0), "26: by one");
        trouble(x, 0, BEGAN, 0, 1);
        Due.is(NONE, x.wins(0), "26: perhaps alike");
        show(x, 0, 7, 5);
        Due.is(0, x.wins(0), "26: by one at least");
        show(x, 0, 51, 0);
        Due.is(0, x.wins(0), "26: one set fits");
        show(x, 0, 52, 0);
        Due.is(NONE, x.wins(0), "26: none fits");
    }

    private static void winsAlone() {
        LeverCurtain x = booth(3, 4, 1);
        Due.is(2, x.wins(0), "26: one alone, no machine");
        till(x, 2, 0, 0, "one alone, no machine");
        x.machine(5, 0, 0, 0, 0);
        Due.is(2, x.wins(0), "26: one alone");
        till(x, 2, 0, 0, "one alone");
        x.show(0, 2, 6);
        Due.is(NONE, x.wins(0), "26: none fits");
        till(x, 2, NONE, NONE, "none fits");
        LeverCurtain two = booth(2, 3, 1);
        Due.is(NONE, two.wins(0), "26: two, no machine");
        till(two, 0, NONE, NONE, "two, no machine");
    }

    /** MACHINES that show these numbers of LEVER 0, or of LEVER 1, if both are SWAPPED. */
    private static LeverCurtain doubtful(int... shown) {
        LeverCurtain x = booth(2, 3, 1);
        for (int machine = 0; machine < shown.length; machine++) {
            x.machine(500, 0, 0, 0, 0);
            x.show(machine, 0, shown[machine]);
            trouble(x, machine, SWAPPED, 0, 1);
        }
        return x;
    }

    private static void costWithin() {
        LeverCurtain x = doubtful(9);
        till(x, 0, 1, 1, "the cost at first");
        for (int cost : new int[] {50, 49, 2, 1}) {
            Due.yes(x.cost(0, cost), "27: cost " + cost);
            till(x, 0, 1, cost, "by its cost");
        }
        Due.yes(x.cost(0, 7), "27: cost 7");
        for (int cost : new int[] {LOW, -1, 0, 51, TOP}) {
            Due.no(x.cost(0, cost), "27: cost " + cost);
            till(x, 0, 1, 7, "by its cost still");
        }
        for (int machine : new int[] {LOW, -1, 1, 6, TOP}) {
            Due.no(x.cost(machine, 5), "27: machine " + machine);
        }
        x.machine(5, 0, 0, 0, 0);
        x.show(1, 1, 5);
        Due.yes(x.cost(1, 50), "27: the second machine");
        till(x, 0, 1, 7, "the first alone");
    }

    private static void tillNoneNeeded() {
        LeverCurtain x = booth(2, 3, 1, 50, 50);
        show(x, 0, 20, 19);
        till(x, 0, 0, 0, "it wins");
        till(x, 1, NONE, NONE, "it can't win");
        trouble(x, 1, DEAD, 0, 0);
        trouble(x, 1, DEAD, 1, 0);
        // on machine 1 each could have fifty more; opened with its fewest, none has
        till(x, 0, 2, 1, "opened it brings nothing more");
        show(x, 0, 0, 0);
        till(x, 0, NONE, NONE, "alike when opened");
    }

    private static void tillNone() {
        LeverCurtain x = doubtful(9, 8);
        x.show(1, 1, 8);
        x.show(1, 0, 0);
        // machine 0: 9 and 0 or swapped; machine 1: 0 and 8 or swapped
        till(x, 0, 1, 1, "9 less 8");
        till(x, 1, NONE, NONE, "8 less 9");
        x.show(1, 1, 9);
        till(x, 0, NONE, NONE, "9 less 9");
        x.show(1, 1, 10);
        till(x, 0, NONE, NONE, "9 less 10");
        till(x, 1, 2, 1, "10 less 9");
    }

    /** Opened with its FEWEST, whatever other sets would tell. */
    private static void tillByFewest() {
        LeverCurtain x = booth(2, 3, 1, 100);
        show(x, 0, 60, 50);
        trouble(x, 0, BEGAN, 0, 20);
        trouble(x, 0, BEGAN, 1, 10);
        // 60 and 50 are ten too many: began 0 leaves 40 and 50, began 1 leaves 60 and 40, both 40 and 40
        Due.is(1, x.sets(0, 0), "21: the lower");
        till(x, 1, 1, 1, "40 and 50");
        till(x, 0, NONE, NONE, "60 and 40 is not the fewest");
        x.open(0, 2);
        till(x, 0, 0, 0, "opened with that by hand");
        till(x, 1, NONE, NONE, "opened already");
    }

    private static void tillLeastCost() {
        LeverCurtain x = doubtful(10, 10, 10);
        // thirty behind; each opened brings twenty
        till(x, 0, 3, 2, "two of three: ten ahead");
        x.cost(0, 2);
        till(x, 0, 6, 2, "the two others are less dear");
        x.cost(1, 2);
        till(x, 0, 5, 3, "0 and 2 for 3, as 1 and 2");
        x.cost(2, 2);
        till(x, 0, 3, 4, "all for 2");
        LeverCurtain y = doubtful(10, 10, 41);
        // sixty-one behind: 2 alone brings 82
        till(y, 0, 4, 1, "one alone");
        y.cost(2, 50);
        till(y, 0, 4, 50, "dear, but the others bring forty together");
        y.show(2, 0, 19);
        // thirty-nine behind: 0 and 1 bring forty
        till(y, 0, 3, 2, "one ahead");
        y.show(2, 0, 20);
        till(y, 0, 5, 51, "forty behind: 0 and 1 bring just that");
    }

    private static void tillFewestThenLower() {
        LeverCurtain x = doubtful(10, 10, 15);
        // thirty-five behind: 0 and 1 bring 40, 0 and 2, 1 and 2 fifty, each alone too little
        till(x, 0, 3, 2, "the lower where two first differ");
        x.show(2, 0, 21);
        // forty-one behind: 2 alone brings 42
        x.cost(2, 2);
        till(x, 0, 4, 2, "one alone");
        x.show(2, 0, 22);
        till(x, 0, 4, 2, "one alone");
        x.show(0, 0, 20);
        x.show(1, 0, 20);
        x.show(2, 0, 39);
        // seventy-nine behind: 0 and 1 bring eighty for 2, 2 alone 78
        till(x, 0, 3, 2, "both of the first");
        x.show(2, 0, 41);
        // eighty-one behind: 2 alone brings 82, 0 and 1 eighty
        till(x, 0, 4, 2, "one alone");
        LeverCurtain y = doubtful(10, 10, 10, 15);
        y.cost(3, 2);
        // forty-five behind: 0, 1 and 2 bring sixty for 3, 3 and any other fifty for 3
        till(y, 0, 9, 3, "0 and 3 are fewer than 0, 1 and 2");
        LeverCurtain z = doubtful(10, 8, 8, 10);
        // thirty-six behind: 0 and 1 bring just that, 0 and 3 forty, 1 and 2 thirty-two
        till(z, 0, 9, 2, "0 and 3");
        z.show(1, 0, 9);
        // thirty-seven behind: 0 and 1 bring 38
        till(z, 0, 3, 2, "0 and 1 before 0 and 3");
    }

    private static void tillNotOpened() {
        LeverCurtain x = doubtful(10, 10, 10);
        Due.yes(x.open(0, 0), "23: as it shows");
        till(x, 0, 2, 1, "ten behind: one more");
        Due.yes(x.open(1, 1), "23: swapped");
        // ten, less ten, less ten: 2 brings twenty
        till(x, 0, 4, 1, "the one that is left");
        Due.yes(x.open(2, 1), "23: swapped");
        till(x, 0, NONE, NONE, "none is left");
        till(x, 1, 0, 0, "the other wins");
        Due.yes(x.open(1, NONE), "23: shut again");
        till(x, 0, 2, 1, "the one that is shut again");
        till(x, 1, NONE, NONE, "opened with its fewest the other does not win");
    }

    private static void tillOfSix() {
        LeverCurtain x = doubtful(100, 100, 100, 100, 100, 100);
        for (int machine = 0; machine < 6; machine++) {
            x.cost(machine, 50);
        }
        till(x, 0, 15, 200, "four of six");
        x.show(5, 0, 499);
        // 999 behind: 5 alone brings 998, with one more 1198
        till(x, 0, 33, 100, "the first and the last");
        x.show(5, 0, 0);
        x.show(5, 1, 1);
        // 501 behind: three bring 600
        till(x, 0, 7, 150, "the first three");
        x.show(5, 1, 500);
        // a thousand behind; all opened 0 ahead
        till(x, 0, NONE, NONE, "alike when all are opened");
        x.show(5, 1, 499);
        till(x, 0, 31, 250, "all but the last: it brings less than nothing");
    }
}
