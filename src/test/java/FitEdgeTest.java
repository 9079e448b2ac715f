/**
 * The boundaries of the Terms 3 and of promises 18 to 28: the value just within each and the one just outside
 * it, the empty and the full one. The number before each text is that of the promise.
 */
public final class FitEdgeTest {
    private static final int NONE = LeverCurtain.NONE;
    private static final int HIDDEN = LeverCurtain.HIDDEN;
    private static final int STICKS = 0;
    private static final int SWAPPED = 1;
    private static final int DEAD = 2;
    private static final int BEGAN = 3;
    private static final int OFF = 4;

    public static void main(String[] args) {
        shownAtFirst();
        shownWithin();
        troubleWithin();
        troublesEight();
        pullsOfALever();
        pullsOfAnOffice();
        pullsWithStrapsOff();
        strapsOffTwice();
        onesStick();
        tensStick();
        lesserOfBothWheels();
        swappedAsTold();
        swappedTwice();
        faultsOfTheCounterAsMarked();
        deadOrNot();
        deadWhateverB();
        deadTwiceAndOthers();
        beganGoingRound();
        beganLatestTold();
        deadAndSticking();
        noOffice();
        fittingNumbers();
        fittingNone();
        fewestSureMay();
        fewestFirst();
        fewestLowerWhereTwoDiffer();
        setsOfEight();
        Due.end();
    }

    private static LeverCurtain booth(int levers, int office, int k, int voters) {
        LeverCurtain x = new LeverCurtain(levers);
        Due.is(0, x.office(office, k), "2: office");
        Due.is(0, x.machine(voters, 0, 0, 0, 0), "15: machine");
        return x;
    }

    private static void show(LeverCurtain x, int machine, int... numbers) {
        for (int lever = 0; lever < numbers.length; lever++) {
            Due.yes(x.show(machine, lever, numbers[lever]), "18: show");
        }
    }

    private static void trouble(LeverCurtain x, int machine, int kind, int a, int b) {
        Due.yes(x.trouble(machine, kind, a, b) >= 0, "19: trouble " + kind + ", " + a + ", " + b);
    }

    private static void fits(LeverCurtain x, int machine, String what, int... sets) {
        Due.is(sets.length, x.fitting(machine, NONE), "20: how many fit: " + what);
        for (int i = 0; i < sets.length; i++) {
            Due.is(sets[i], x.fitting(machine, i), "20: the one that fits, number " + i + ": " + what);
        }
        Due.is(NONE, x.fitting(machine, sets.length), "20: one more: " + what);
    }

    private static void span(LeverCurtain x, int machine, int lever, int least, int most, String what) {
        Due.is(least, x.span(machine, lever, 0), "22: the least of lever " + lever + ": " + what);
        Due.is(most, x.span(machine, lever, 1), "22: the greatest of lever " + lever + ": " + what);
    }

    private static void shownAtFirst() {
        LeverCurtain x = booth(16, 65535, 1, 0);
        fits(x, 0, "nothing is shown at first, nobody voted", 0);
        for (int lever = 0; lever < 16; lever++) {
            span(x, 0, lever, 0, 0, "at first");
        }
        show(x, 0, 1);
        fits(x, 0, "one, and nobody voted");
    }

    private static void shownWithin() {
        LeverCurtain x = booth(3, 3, 1, 999);
        Due.is(1, x.machine(999, 0, 0, 0, 0), "15: another");
        for (int number : new int[] {Integer.MIN_VALUE, -1, 1000, Integer.MAX_VALUE}) {
            Due.no(x.show(0, 0, number), "18: " + number);
            span(x, 0, 0, 0, 0, "as it was");
        }
        for (int number : new int[] {999, 998, 1, 0}) {
            Due.yes(x.show(0, 0, number), "18: " + number);
            span(x, 0, 0, number, number, "as shown");
            span(x, 0, 1, 0, 0, "the other lever");
            span(x, 1, 0, 0, 0, "the other machine");
        }
        for (int lever : new int[] {Integer.MIN_VALUE, -1, 3, 16, Integer.MAX_VALUE}) {
            Due.no(x.show(0, lever, 5), "18: of lever " + lever);
        }
        for (int machine : new int[] {Integer.MIN_VALUE, -1, 2, 6, Integer.MAX_VALUE}) {
            Due.no(x.show(machine, 0, 5), "18: on machine " + machine);
        }
        Due.yes(x.show(0, 2, 5), "18: a lever of no office");
        Due.is(0, x.changed(0, 2), "52: no recount of it");
        x.recount(0, 2, 5);
        Due.is(0, x.differs(0), "53: it shows that");
        span(x, 0, 0, 0, 0, "as it was");
        span(x, 0, 1, 0, 0, "as it was");
    }

    private static void troubleWithin() {
        int low = Integer.MIN_VALUE;
        int top = Integer.MAX_VALUE;
        int[][] wrong = {{-1, DEAD, 0, 0}, {1, DEAD, 0, 0}, {low, DEAD, 0, 0}, {0, -1, 0, 1}, {0, 5, 0, 1},
            {0, low, 0, 1}, {0, top, 0, 1}, {0, STICKS, -1, 0}, {0, STICKS, 4, 0}, {0, STICKS, 0, -1},
            {0, STICKS, 0, 2}, {0, STICKS, 0, top}, {0, SWAPPED, -1, 0}, {0, SWAPPED, 4, 0}, {0, SWAPPED, 0, -1},
            {0, SWAPPED, 0, 4}, {0, SWAPPED, 0, 0}, {0, SWAPPED, 3, 3}, {0, DEAD, -1, 0}, {0, DEAD, 4, 0},
            {0, BEGAN, -1, 1}, {0, BEGAN, 4, 1}, {0, BEGAN, 0, 0}, {0, BEGAN, 0, -1}, {0, BEGAN, 0, 1000},
            {0, BEGAN, 0, low}, {0, OFF, -1, 0}, {0, OFF, 2, 0}, {0, OFF, 6, 0}, {0, OFF, top, 0}};
        int[][] right = {{0, STICKS, 0, 0}, {0, STICKS, 3, 1}, {0, SWAPPED, 0, 3}, {0, SWAPPED, 3, 0},
            {0, DEAD, 0, low}, {0, DEAD, 3, top}, {0, BEGAN, 0, 1}, {0, BEGAN, 3, 999}, {0, OFF, 0, low},
            {0, OFF, 1, top}, {0, DEAD, 2, 0}};
        for (int[] w : wrong) {
            LeverCurtain x = booth(4, 3, 1, 9);
            x.office(8, 1);
            Due.is(NONE, x.trouble(w[0], w[1], w[2], w[3]), "19: " + java.util.Arrays.toString(w));
            fits(x, 0, "no fault came", 0);
            Due.is(0, x.trouble(0, DEAD, 2, 0), "19: the first still");
        }
        for (int[] r : right) {
            LeverCurtain x = booth(4, 3, 1, 9);
            x.office(8, 1);
            Due.is(0, x.trouble(r[0], r[1], r[2], r[3]), "19: " + java.util.Arrays.toString(r));
            Due.is(1, x.trouble(0, DEAD, 2, 0), "19: the second");
        }
        LeverCurtain none = new LeverCurtain(2);
        none.machine(1, 0, 0, 0, 0);
        Due.is(NONE, none.trouble(0, OFF, 0, 0), "19: no office's straps");
        Due.is(0, none.trouble(0, DEAD, 0, 0), "19: a lever of no office");
    }

    private static void troublesEight() {
        LeverCurtain x = booth(3, 1, 1, 9);
        x.machine(9, 0, 0, 0, 0);
        for (int fault = 0; fault < 8; fault++) {
            Due.is(fault, x.trouble(0, DEAD, 2, 0), "19: fault " + fault);
            Due.is(2 << fault, x.fitting(0, NONE), "20: all sets of " + (fault + 1));
        }
        for (int kind = 0; kind < 5; kind++) {
            Due.is(NONE, x.trouble(0, kind, 0, 1), "19: a ninth, of kind " + kind);
        }
        Due.is(256, x.fitting(0, NONE), "20: all sets of eight");
        Due.is(0, x.trouble(1, DEAD, 2, 0), "19: the first of another machine");
        Due.is(255, x.sets(0, 2), "21: all eight may be");
    }

    private static void pullsOfALever() {
        LeverCurtain x = booth(3, 7, 3, 10);
        show(x, 0, 10, 0, 0);
        fits(x, 0, "as many as voters", 0);
        show(x, 0, 11, 0, 0);
        fits(x, 0, "one more than voters");
        show(x, 0, 10, 10, 10);
        fits(x, 0, "all levers as many as voters", 0);
        show(x, 0, 10, 10, 11);
        fits(x, 0, "the last one more");
        LeverCurtain most = booth(2, 3, 1, 999);
        show(most, 0, 999, 0);
        fits(most, 0, "999 of 999", 0);
    }

    private static void pullsOfAnOffice() {
        for (int k = 1; k <= 4; k++) {
            LeverCurtain x = booth(5, 15, k, 10);
            int[] rows = {10, 10, 10, 10};
            for (int lever = k; lever < 4; lever++) {
                rows[lever] = 0;
            }
            show(x, 0, rows);
            fits(x, 0, "just K times voters, K " + k, 0);
            if (k < 4) {
                x.show(0, 3, 1);
                fits(x, 0, "one more than K times voters, K " + k);
                x.show(0, 0, 9);
                fits(x, 0, "just K times voters again, K " + k, 0);
            }
            x.office(16, 1);
            x.show(0, 3, k < 4 ? 1 : 10);
            x.show(0, 4, 10);
            fits(x, 0, "another office's levers are apart, K " + k, 0);
        }
    }

    private static void pullsWithStrapsOff() {
        LeverCurtain x = booth(4, 3, 1, 10);
        x.office(12, 1);
        trouble(x, 0, OFF, 0, 0);
        trouble(x, 0, OFF, 1, 0);
        show(x, 0, 6, 5, 6, 4);
        fits(x, 0, "one too many for office 0", 1, 3);
        show(x, 0, 6, 4, 6, 5);
        fits(x, 0, "one too many for office 1", 2, 3);
        show(x, 0, 10, 10, 10, 10);
        fits(x, 0, "all levers as many as voters", 3);
        show(x, 0, 10, 11, 0, 0);
        fits(x, 0, "one lever more than voters");
        show(x, 0, 5, 5, 5, 5);
        fits(x, 0, "just so many", 0, 1, 2, 3);
    }

    private static void strapsOffTwice() {
        LeverCurtain x = booth(4, 3, 1, 10);
        x.office(12, 1);
        trouble(x, 0, OFF, 0, 0);
        trouble(x, 0, OFF, 0, 7);
        trouble(x, 0, OFF, 1, 7);
        show(x, 0, 6, 5);
        fits(x, 0, "told twice of office 0", 1, 2, 3, 5, 6, 7);
        x.show(0, 2, 11);
        fits(x, 0, "one lever more than voters");
    }

    private static void onesStick() {
        LeverCurtain x = booth(2, 3, 2, 109);
        trouble(x, 0, STICKS, 0, 0);
        show(x, 0, 9);
        fits(x, 0, "9", 0, 1);
        span(x, 0, 0, 9, 109, "up to voters");
        show(x, 0, 10);
        fits(x, 0, "10 is not shown by a wheel of ones", 0);
        span(x, 0, 0, 10, 10, "with no fault");
        show(x, 0, 0);
        span(x, 0, 0, 0, 100, "ten by ten");
        LeverCurtain less = booth(2, 3, 2, 108);
        trouble(less, 0, STICKS, 0, 0);
        show(less, 0, 9);
        span(less, 0, 0, 9, 99, "one voter less");
        LeverCurtain few = booth(2, 3, 2, 9);
        trouble(few, 0, STICKS, 0, 0);
        show(few, 0, 9);
        span(few, 0, 0, 9, 9, "as many as voters");
        show(few, 0, 0);
        span(few, 0, 0, 0, 0, "too few voters for ten");
    }

    private static void tensStick() {
        LeverCurtain x = booth(2, 3, 2, 999);
        trouble(x, 0, STICKS, 0, 1);
        show(x, 0, 99);
        fits(x, 0, "99", 0, 1);
        span(x, 0, 0, 99, 999, "up to voters");
        show(x, 0, 100);
        fits(x, 0, "100 is not shown by a wheel of tens", 0);
        show(x, 0, 98);
        span(x, 0, 0, 98, 998, "up to voters but one");
        show(x, 0, 0);
        span(x, 0, 0, 0, 900, "hundred by hundred");
        LeverCurtain less = booth(2, 3, 2, 998);
        trouble(less, 0, STICKS, 0, 1);
        show(less, 0, 99);
        span(less, 0, 0, 99, 899, "one voter less");
    }

    private static void lesserOfBothWheels() {
        LeverCurtain x = booth(2, 3, 2, 300);
        trouble(x, 0, STICKS, 0, 0);
        trouble(x, 0, STICKS, 0, 1);
        show(x, 0, 9);
        fits(x, 0, "9", 0, 1, 2, 3);
        show(x, 0, 10);
        fits(x, 0, "10 by the wheel of tens alone", 0, 2);
        show(x, 0, 99);
        fits(x, 0, "99 by the wheel of tens alone", 0, 2);
        show(x, 0, 100);
        fits(x, 0, "100 by none", 0);
        show(x, 0, 5);
        Due.yes(x.open(0, 3), "23: both");
        span(x, 0, 0, 5, 295, "ten by ten");
        Due.yes(x.open(0, 2), "23: tens alone");
        span(x, 0, 0, 5, 205, "hundred by hundred");
        LeverCurtain y = booth(2, 3, 2, 300);
        trouble(y, 0, STICKS, 0, 1);
        trouble(y, 0, STICKS, 0, 0);
        show(y, 0, 10);
        fits(y, 0, "told the other way round", 0, 1);
    }

    private static void swappedAsTold() {
        LeverCurtain x = booth(3, 7, 1, 90);
        show(x, 0, 10, 20, 30);
        trouble(x, 0, SWAPPED, 0, 1);
        trouble(x, 0, SWAPPED, 1, 2);
        trouble(x, 0, SWAPPED, 0, 2);
        // of each set the counters of levers 0, 1 and 2
        int[][] shown = {{10, 20, 30}, {20, 10, 30}, {10, 30, 20}, {20, 30, 10}, {30, 20, 10}, {30, 10, 20},
            {20, 30, 10}, {10, 30, 20}};
        for (int set = 0; set < 8; set++) {
            Due.yes(x.open(0, set), "23: set " + set);
            for (int lever = 0; lever < 3; lever++) {
                span(x, 0, lever, shown[set][lever], shown[set][lever], "swapped by set " + set);
            }
        }
    }

    private static void swappedTwice() {
        LeverCurtain x = booth(3, 3, 1, 90);
        show(x, 0, 10, 20, 500);
        trouble(x, 0, SWAPPED, 0, 1);
        trouble(x, 0, SWAPPED, 1, 0);
        trouble(x, 0, SWAPPED, 0, 2);
        fits(x, 0, "with a lever of no office that shows too many", 0, 1, 2, 3);
        Due.yes(x.open(0, 3), "23: twice");
        span(x, 0, 0, 10, 10, "there and back");
        Due.yes(x.open(0, 2), "23: once");
        span(x, 0, 0, 20, 20, "b and a are each other's too");
        x.show(0, 2, 70);
        fits(x, 0, "with one that does not, but for what is together", 0, 1, 2, 3, 4, 5, 6, 7);
        x.show(0, 2, 71);
        fits(x, 0, "71 and 20 are one too many", 0, 1, 2, 3, 5, 6);
    }

    private static void faultsOfTheCounterAsMarked() {
        LeverCurtain x = booth(2, 3, 2, 50);
        show(x, 0, 3, 20);
        trouble(x, 0, SWAPPED, 0, 1);
        trouble(x, 0, STICKS, 0, 0);
        Due.yes(x.open(0, 3), "23: both");
        span(x, 0, 1, 3, 43, "lever 1 has counter 0, which sticks");
        span(x, 0, 0, 20, 20, "lever 0 has counter 1");
        LeverCurtain dead = booth(2, 3, 2, 50);
        show(dead, 0, 0, 20);
        trouble(dead, 0, SWAPPED, 0, 1);
        trouble(dead, 0, DEAD, 0, 0);
        Due.yes(dead.open(0, 3), "23: both");
        span(dead, 0, 1, 0, 50, "lever 1 has counter 0, which is dead");
        span(dead, 0, 0, 20, 20, "lever 0 has counter 1");
        LeverCurtain began = booth(2, 3, 2, 50);
        show(began, 0, 5, 20);
        trouble(began, 0, SWAPPED, 0, 1);
        trouble(began, 0, BEGAN, 0, 4);
        Due.yes(began.open(0, 3), "23: both");
        span(began, 0, 1, 1, 1, "lever 1 has counter 0, which began at 4");
        span(began, 0, 0, 20, 20, "lever 0 has counter 1");
    }

    private static void deadOrNot() {
        LeverCurtain x = booth(2, 3, 1, 50);
        trouble(x, 0, DEAD, 0, 0);
        show(x, 0, 0, 20);
        fits(x, 0, "0 by a dead one", 0, 1);
        span(x, 0, 0, 0, 30, "what the other leaves");
        show(x, 0, 1, 20);
        fits(x, 0, "1 by a dead one", 0);
        span(x, 0, 0, 1, 1, "it is not dead");
        show(x, 0, 0, 50);
        span(x, 0, 0, 0, 0, "the other leaves none");
        show(x, 0, 0, 0);
        span(x, 0, 0, 0, 50, "the other leaves all");
        trouble(x, 0, OFF, 0, 0);
        show(x, 0, 0, 50);
        span(x, 0, 0, 0, 50, "with straps off the other leaves all");
    }

    /** b of DEAD is not asked: the counter did not begin there, nor are that OFFICE's straps off. */
    private static void deadWhateverB() {
        for (int b : new int[] {Integer.MIN_VALUE, -1, 0, 1, 5, 1000, Integer.MAX_VALUE}) {
            LeverCurtain x = booth(2, 3, 1, 51);
            trouble(x, 0, DEAD, 0, b);
            show(x, 0, 0, 20);
            fits(x, 0, "0 by a dead one, b " + b, 0, 1);
            span(x, 0, 0, 0, 31, "what the other leaves");
            show(x, 0, 5, 20);
            fits(x, 0, "5 by a dead one, b " + b, 0);
            show(x, 0, 1, 51);
            fits(x, 0, "one too many, b " + b);
        }
    }

    private static void deadTwiceAndOthers() {
        LeverCurtain x = booth(2, 3, 1, 51);
        trouble(x, 0, DEAD, 0, 0);
        trouble(x, 0, DEAD, 1, 0);
        trouble(x, 0, DEAD, 0, 0);
        fits(x, 0, "both dead", 0, 1, 2, 3, 4, 5, 6, 7);
        Due.yes(x.open(0, 5), "23: one of them, told twice");
        span(x, 0, 0, 0, 51, "told twice");
        span(x, 0, 1, 0, 0, "not dead");
        Due.yes(x.open(0, 3), "23: both");
        span(x, 0, 0, 0, 51, "both dead");
        span(x, 0, 1, 0, 51, "both dead");
        show(x, 0, 1, 0);
        fits(x, 0, "1 on the first", 0, 2);
        show(x, 0, 0, 1);
        fits(x, 0, "1 on the second", 0, 1, 4, 5);
        Due.yes(x.open(0, 5), "23: one of them, told twice");
        span(x, 0, 0, 0, 50, "the other leaves fifty");
    }

    private static void beganGoingRound() {
        LeverCurtain x = booth(2, 3, 1, 999);
        trouble(x, 0, BEGAN, 0, 999);
        show(x, 0, 999);
        Due.yes(x.open(0, 1), "23: began at 999");
        span(x, 0, 0, 0, 0, "999, where it began");
        show(x, 0, 0);
        span(x, 0, 0, 1, 1, "0, one behind");
        show(x, 0, 998);
        span(x, 0, 0, 999, 999, "998, all round but one");
        LeverCurtain one = booth(2, 3, 1, 999);
        trouble(one, 0, BEGAN, 0, 1);
        show(one, 0, 0);
        Due.yes(one.open(0, 1), "23: began at 1");
        span(one, 0, 0, 999, 999, "0, all round but one");
        show(one, 0, 1);
        span(one, 0, 0, 0, 0, "1, where it began");
        LeverCurtain few = booth(2, 3, 1, 500);
        trouble(few, 0, BEGAN, 0, 600);
        show(few, 0, 100);
        fits(few, 0, "500 behind", 0, 1);
        show(few, 0, 101);
        fits(few, 0, "501 behind", 0);
        show(few, 0, 599);
        fits(few, 0, "999 behind");
        show(few, 0, 600);
        fits(few, 0, "where it began", 1);
        show(few, 0, 0);
        fits(few, 0, "400 behind", 0, 1);
    }

    private static void beganLatestTold() {
        LeverCurtain x = booth(2, 3, 1, 100);
        trouble(x, 0, BEGAN, 0, 60);
        trouble(x, 0, BEGAN, 0, 30);
        trouble(x, 0, BEGAN, 0, 45);
        show(x, 0, 90);
        int[] pulls = {90, 30, 60, 60, 45, 45, 45, 45};
        for (int set = 0; set < 8; set++) {
            Due.yes(x.open(0, set), "23: set " + set);
            span(x, 0, 0, pulls[set], pulls[set], "the latest told of set " + set);
        }
    }

    private static void deadAndSticking() {
        LeverCurtain x = booth(2, 3, 1, 40);
        trouble(x, 0, DEAD, 0, 0);
        trouble(x, 0, BEGAN, 0, 357);
        trouble(x, 0, STICKS, 0, 0);
        trouble(x, 0, STICKS, 0, 1);
        show(x, 0, 357);
        fits(x, 0, "where it began", 2, 3);
        show(x, 0, 57);
        fits(x, 0, "of that the tens", 10, 11);
        show(x, 0, 7);
        fits(x, 0, "of that the ones", 0, 4, 6, 7, 8, 12, 14, 15);
        show(x, 0, 8);
        fits(x, 0, "one more: dead never", 0, 4, 6, 8, 12, 14);
        show(x, 0, 97);
        fits(x, 0, "forty more", 10);
        show(x, 0, 98);
        fits(x, 0, "forty-one more");
        show(x, 0, 397);
        fits(x, 0, "forty more with all wheels", 2);
        show(x, 0, 398);
        fits(x, 0, "forty-one more with all wheels");
        show(x, 0, 356);
        fits(x, 0, "one less");
    }

    private static void noOffice() {
        LeverCurtain x = new LeverCurtain(2);
        x.machine(5, 0, 0, 0, 0);
        x.show(0, 0, 999);
        fits(x, 0, "no office asks for its counter", 0);
        x.trouble(0, DEAD, 0, 0);
        fits(x, 0, "dead or not", 0, 1);
        Due.is(NONE, x.span(0, 0, 0), "22: a lever of no office");
        Due.is(NONE, x.total(0, 0), "24: a lever of no office");
        Due.is(NONE, x.till(0, 0), "28: a lever of no office");
        Due.is(HIDDEN, x.ahead(0, 1), "25: levers of no office");
        x.office(2, 1);
        fits(x, 0, "an office of the other lever", 0, 1);
        span(x, 0, 1, 0, 0, "of the other lever");
        x.office(1, 1);
        fits(x, 0, "an office asks for it then");
    }

    private static void fittingNumbers() {
        LeverCurtain x = booth(2, 1, 1, 20);
        fits(x, 0, "no fault", 0);
        trouble(x, 0, BEGAN, 0, 5);
        trouble(x, 0, STICKS, 0, 0);
        show(x, 0, 4);
        fits(x, 0, "4", 0, 2, 3);
        for (int i : new int[] {3, 4, 256, Integer.MAX_VALUE, -2, Integer.MIN_VALUE}) {
            Due.is(NONE, x.fitting(0, i), "20: fitting(0, " + i + ")");
        }
        for (int machine : new int[] {-1, 1, 6, Integer.MIN_VALUE, Integer.MAX_VALUE}) {
            Due.is(NONE, x.fitting(machine, NONE), "20: how many on machine " + machine);
            Due.is(NONE, x.fitting(machine, 0), "20: the first on machine " + machine);
        }
    }

    private static void fittingNone() {
        LeverCurtain x = booth(2, 1, 1, 20);
        trouble(x, 0, DEAD, 0, 0);
        show(x, 0, 21);
        fits(x, 0, "one more than voters");
        Due.is(NONE, x.fitting(0, 0), "20: the first of none");
        for (int what = 0; what < 3; what++) {
            Due.is(NONE, x.sets(0, what), "21: sets(0, " + what + ") of none");
        }
        span(x, 0, 0, NONE, NONE, "none fits");
        Due.is(NONE, x.total(0, 0), "24: none fits");
        Due.is(NONE, x.total(0, 1), "24: none fits");
        Due.is(HIDDEN, x.ahead(0, 1), "25: none fits");
        Due.is(NONE, x.wins(0), "26: none fits");
        Due.is(NONE, x.till(0, 0), "28: none fits");
        Due.is(NONE, x.till(0, 1), "28: none fits");
        Due.no(x.open(0, 0), "23: none fits");
        show(x, 0, 20);
        fits(x, 0, "just voters", 0);
        span(x, 0, 0, 20, 20, "just voters");
    }

    private static void fewestSureMay() {
        LeverCurtain x = booth(2, 1, 1, 20);
        for (int what : new int[] {Integer.MIN_VALUE, -1, 3, Integer.MAX_VALUE}) {
            Due.is(NONE, x.sets(0, what), "21: what " + what);
        }
        for (int machine : new int[] {-1, 1, 6}) {
            Due.is(NONE, x.sets(machine, 0), "21: machine " + machine);
        }
        sets(x, 0, 0, 0, "no fault told");
        trouble(x, 0, DEAD, 0, 0);
        sets(x, 0, 0, 1, "one that may be");
        show(x, 0, 25);
        trouble(x, 0, BEGAN, 0, 25);
        sets(x, 2, 2, 3, "one that is sure, one that may be");
        trouble(x, 0, BEGAN, 0, 24);
        // 25 is shown by 25 with or without dead, by 24 and one pull
        sets(x, 2, 0, 7, "one of two: none is sure");
        show(x, 0, 9);
        sets(x, 0, 0, 0, "none that may be");
    }

    private static void sets(LeverCurtain x, int fewest, int sure, int may, String what) {
        Due.is(fewest, x.sets(0, 0), "21: fewest: " + what);
        Due.is(sure, x.sets(0, 1), "21: sure: " + what);
        Due.is(may, x.sets(0, 2), "21: may: " + what);
    }

    private static void fewestFirst() {
        LeverCurtain x = booth(3, 7, 1, 10);
        show(x, 0, 5, 5, 4);
        trouble(x, 0, BEGAN, 0, 2);
        trouble(x, 0, BEGAN, 1, 2);
        Due.is(0b0011, x.sets(0, 0), "21: four too many: two of two");
        trouble(x, 0, BEGAN, 2, 4);
        Due.is(0b0100, x.sets(0, 0), "21: one later instead of two");
        trouble(x, 0, OFF, 0, 0);
        Due.is(0b0100, x.sets(0, 0), "21: of two alone the lower");
        show(x, 0, 5, 5, 0);
        Due.is(0, x.sets(0, 0), "21: none is needed");
        LeverCurtain y = booth(2, 3, 1, 10);
        show(y, 0, 9, 9);
        trouble(y, 0, BEGAN, 0, 3);
        trouble(y, 0, BEGAN, 0, 5);
        trouble(y, 0, BEGAN, 1, 3);
        trouble(y, 0, BEGAN, 1, 5);
        // eight too many: 3 and 5, 5 and 3 bring just that, 5 and 5 more; of one counter the latest counts
        Due.is(0b1001, y.sets(0, 0), "21: 0 and 3 before 1 and 2");
    }

    /** One office of four levers, ten voters; what the sum is too high by is what the counters began at. */
    private static void fewestLowerWhereTwoDiffer() {
        LeverCurtain x = booth(4, 15, 1, 10);
        show(x, 0, 5, 5, 5, 5);
        trouble(x, 0, BEGAN, 0, 5);
        trouble(x, 0, BEGAN, 1, 4);
        trouble(x, 0, BEGAN, 2, 5);
        trouble(x, 0, BEGAN, 3, 4);
        Due.is(0b0101, x.sets(0, 0), "21: ten too many: 0 and 2 alone bring ten by two");
        show(x, 0, 4, 5, 5, 5);
        // nine too many: 0 is no fault then that fits (4 by 5 needs 999 pulls)
        Due.is(0b0110, x.sets(0, 0), "21: 1 and 2 before 2 and 3");
        show(x, 0, 5, 5, 4, 5);
        Due.is(0b0011, x.sets(0, 0), "21: 0 and 1 before 0 and 3");
        show(x, 0, 5, 5, 5, 4);
        Due.is(0b0011, x.sets(0, 0), "21: 0 and 1 before 0 and 2, 0 and 3");
        LeverCurtain y = booth(4, 15, 1, 10);
        show(y, 0, 5, 5, 5, 5);
        trouble(y, 0, BEGAN, 0, 5);
        trouble(y, 0, BEGAN, 1, 5);
        trouble(y, 0, BEGAN, 1, 4);
        trouble(y, 0, BEGAN, 0, 4);
        trouble(y, 0, BEGAN, 2, 5);
        Due.is(0b00011, y.sets(0, 0), "21: 0 and 1 before 0 and 4, 1 and 4");
        y.show(0, 1, 4);
        y.show(0, 3, 6);
        Due.is(0b10001, y.sets(0, 0), "21: 0 and 4, where 1 fits no more");
        trouble(y, 0, BEGAN, 3, 6);
        // ten too many: 0 and 5 bring eleven, 2 and 5 ten, 3 and 5 ten, 4 and 5 eleven
        Due.is(0b010001, y.sets(0, 0), "21: 0 and 4 before 0 and 5");
    }

    /** Eight levers, nobody voted: each number shown is where its counter began. */
    private static void setsOfEight() {
        LeverCurtain x = booth(8, 255, 8, 0);
        for (int lever = 0; lever < 8; lever++) {
            x.show(0, lever, lever + 1);
            trouble(x, 0, BEGAN, lever, lever + 1);
        }
        fits(x, 0, "all eight", 255);
        sets(x, 255, 255, 255, "all eight");
        x.show(0, 7, 0);
        fits(x, 0, "all but the last", 127);
        x.show(0, 0, 0);
        fits(x, 0, "all but the first and the last", 126);
        Due.yes(x.open(0, 126), "23: that");
        Due.no(x.open(0, 127), "23: one more");
        Due.no(x.open(0, 256), "23: no such set");
        Due.no(x.open(0, 126 + 256), "23: no such set");
        span(x, 0, 3, 0, 0, "nobody voted");
    }
}
