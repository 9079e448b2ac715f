/**
 * The boundaries of the Terms 5 and of promises 43 to 54: ABSENT ones, EVENTS, SPANS of time, PLACES, RECOUNTS.
 * The number before each text is that of the promise.
 */
public final class SealEdgeTest {
    private static final int NONE = LeverCurtain.NONE;
    private static final int HIDDEN = LeverCurtain.HIDDEN;
    private static final int LOW = Integer.MIN_VALUE;
    private static final int TOP = Integer.MAX_VALUE;
    private static final int SEALED = 0;
    private static final int SEEN = 1;
    private static final int CUT = 2;
    private static final int MOVED = 3;
    private static final int LAST = 9999;

    public static void main(String[] args) {
        absentWithin();
        absentAtFirst();
        joinedByLeastAndGreatest();
        eventMachines();
        eventTimes();
        eventKindsAndValues();
        eventsBelowTheFirst();
        eventsTwenty();
        eventsOfAllMachines();
        badNone();
        badSeenWhileShut();
        badSeenWhileOpen();
        badSealedWhileShut();
        badAllTwenty();
        openSinceTheEventBefore();
        exposedWithin();
        exposedAtFirst();
        exposedFromTo();
        exposedOfOneUnit();
        exposedAtOneTime();
        placeWithin();
        placeJustThen();
        aloneWithin();
        aloneAtOtherPlaces();
        recountWithin();
        recountsEight();
        recountsOfAllMachines();
        keptWithin();
        changedFromWhatIsShown();
        differsNoneAndAll();
        takenNoneAndAll();
        Due.end();
    }

    private static LeverCurtain machine() {
        LeverCurtain x = new LeverCurtain(3);
        Due.is(0, x.machine(9, 0, 0, 0, 0), "15: machine");
        return x;
    }

    private static void event(LeverCurtain x, int time, int kind, int v) {
        Due.yes(x.event(0, time, kind, v) > 0, "45: event at " + time + ", " + kind + ", " + v);
    }

    private static void absentWithin() {
        int[][] wrong = {{LOW, 1, 2}, {-1, 1, 2}, {3, 1, 2}, {16, 1, 2}, {TOP, 1, 2}, {0, LOW, 2}, {0, -1, 2},
            {0, -1, -1}, {0, 1, 10000}, {0, 10000, 10000}, {0, 1, TOP}, {0, 2, 1}, {0, 1, 0}, {0, 9999, 9998},
            {0, 0, -1}};
        LeverCurtain x = new LeverCurtain(3);
        x.office(7, 1);
        x.absent(0, 5, 6);
        for (int[] w : wrong) {
            Due.no(x.absent(w[0], w[1], w[2]), "43: " + java.util.Arrays.toString(w));
            Due.is(5, x.joinedAhead(0, 1), "44: the least stays");
            Due.is(-6, x.joinedAhead(1, 0), "44: the greatest stays");
        }
        int[][] right = {{0, 0, 0}, {0, 0, 9999}, {0, 9999, 9999}, {0, 1, 1}, {0, 1, 2}, {0, 9998, 9999}, {2, 3, 4}};
        for (int[] r : right) {
            Due.yes(x.absent(r[0], r[1], r[2]), "43: " + java.util.Arrays.toString(r));
            Due.is(r[1], x.joinedAhead(r[0], 1), "44: the least");
            Due.is(-r[2], x.joinedAhead(1, r[0]), "44: the greatest");
        }
        LeverCurtain sixteen = new LeverCurtain(16);
        Due.yes(sixteen.absent(15, 1, 2), "43: the last of sixteen, of no office");
        Due.no(sixteen.absent(16, 1, 2), "43: lever 16");
        sixteen.office(3 << 14, 1);
        Due.is(1, sixteen.joinedAhead(15, 14), "44: it was told before");
    }

    private static void absentAtFirst() {
        LeverCurtain x = machine();
        x.office(3, 1);
        x.show(0, 0, 3);
        Due.is(3, x.joinedAhead(0, 1), "44: none absent at first");
        Due.is(-3, x.joinedAhead(1, 0), "44: none absent at first");
        Due.is(HIDDEN, x.joinedAhead(0, 0), "44: alike");
        Due.is(HIDDEN, x.joinedAhead(0, 2), "44: not of one office");
        Due.is(HIDDEN, x.joinedAhead(0, 3), "44: no such lever");
        Due.is(HIDDEN, x.joinedAhead(-1, 0), "44: no such lever");
        x.show(0, 0, 10);
        Due.is(HIDDEN, x.joinedAhead(0, 1), "44: none fits");
    }

    private static void joinedByLeastAndGreatest() {
        LeverCurtain x = machine();
        x.office(3, 1);
        x.absent(0, 10, 20);
        Due.is(10, x.joinedAhead(0, 1), "44: the least of a");
        Due.is(-20, x.joinedAhead(1, 0), "44: less the greatest of b");
        x.absent(1, 3, 4);
        Due.is(6, x.joinedAhead(0, 1), "44: the least of a less the greatest of b");
        Due.is(-17, x.joinedAhead(1, 0), "44: the least of a less the greatest of b");
        Due.is(0, x.ahead(0, 1), "25: without them");
        Due.is(NONE, x.wins(0), "26: without them");
    }

    private static void eventMachines() {
        LeverCurtain x = new LeverCurtain(2);
        Due.is(NONE, x.event(0, 5, CUT, 0), "45: no machine");
        Due.is(NONE, x.badOnes(0), "46: no machine");
        Due.is(NONE, x.exposed(0, 0, 9), "47: no machine");
        Due.is(NONE, x.placeAt(0, 0), "48: no machine");
        Due.is(NONE, x.alone(0, 1, 0, 9), "49: no machine");
        for (int machine = 0; machine < 6; machine++) {
            x.machine(0, 0, 0, 0, 0);
            Due.is(1, x.event(machine, 5 + machine, SEEN, 0), "45: the first on machine " + machine);
            Due.is(2, x.event(machine, 6 + machine, SEALED, 0), "45: the second on machine " + machine);
        }
        for (int machine = 0; machine < 6; machine++) {
            Due.is(1, x.badOnes(machine), "46: on machine " + machine);
            Due.is(6 + machine, x.exposed(machine, 0, LAST), "47: on machine " + machine);
        }
        for (int machine : new int[] {LOW, -1, 6, TOP}) {
            Due.is(NONE, x.event(machine, 99, CUT, 0), "45: machine " + machine);
            Due.is(NONE, x.badOnes(machine), "46: machine " + machine);
            Due.is(NONE, x.exposed(machine, 0, 9), "47: machine " + machine);
            Due.is(NONE, x.placeAt(machine, 0), "48: machine " + machine);
            Due.is(NONE, x.alone(machine, 1, 0, 9), "49: machine " + machine);
        }
    }

    private static void eventTimes() {
        LeverCurtain x = machine();
        for (int time : new int[] {LOW, -1, 10000, TOP}) {
            Due.is(NONE, x.event(0, time, CUT, 0), "45: time " + time);
        }
        Due.is(1, x.event(0, 0, CUT, 0), "45: time 0");
        Due.is(2, x.event(0, 0, CUT, 0), "45: time 0 again");
        Due.is(3, x.event(0, 50, CUT, 0), "45: time 50");
        Due.is(NONE, x.event(0, 49, CUT, 0), "45: a time below");
        Due.is(NONE, x.event(0, 0, CUT, 0), "45: far below");
        Due.is(4, x.event(0, 50, CUT, 0), "45: the same time");
        Due.is(5, x.event(0, 51, CUT, 0), "45: a time above");
        Due.is(NONE, x.event(0, 50, CUT, 0), "45: the one before");
        Due.is(6, x.event(0, LAST, CUT, 0), "45: the last time");
        Due.is(7, x.event(0, LAST, CUT, 0), "45: the last time again");
        Due.is(NONE, x.event(0, 9998, CUT, 0), "45: a time below the last");
        Due.is(NONE, x.event(0, 10000, CUT, 0), "45: a time above the last");
        x.machine(0, 0, 0, 0, 0);
        Due.is(1, x.event(1, 3, CUT, 0), "45: another machine has its own times");
    }

    private static void eventKindsAndValues() {
        int[][] wrong = {{LOW, 1}, {-1, 1}, {4, 1}, {5, 1}, {TOP, 1}, {SEALED, LOW}, {SEALED, -1}, {SEALED, 10000},
            {SEALED, TOP}, {SEEN, LOW}, {SEEN, -1}, {SEEN, 10000}, {SEEN, TOP}, {MOVED, LOW}, {MOVED, -1}, {MOVED, 10},
            {MOVED, TOP}};
        int[][] right = {{SEALED, 0}, {SEALED, 9999}, {SEEN, 0}, {SEEN, 9999}, {CUT, LOW}, {CUT, -1}, {CUT, 10000},
            {CUT, TOP}, {MOVED, 0}, {MOVED, 9}};
        LeverCurtain x = machine();
        for (int[] w : wrong) {
            Due.is(NONE, x.event(0, 5, w[0], w[1]), "45: " + java.util.Arrays.toString(w));
        }
        for (int i = 0; i < right.length; i++) {
            int[] r = right[i];
            Due.is(i + 1, x.event(0, 5, r[0], r[1]), "45: " + java.util.Arrays.toString(r));
        }
        LeverCurtain y = machine();
        event(y, 1, SEALED, 9999);
        event(y, 2, SEEN, 9999);
        event(y, 3, SEEN, 9998);
        event(y, 4, SEALED, 0);
        event(y, 5, SEEN, 0);
        event(y, 6, SEEN, 1);
        Due.is(0b100100, y.badOnes(0), "46: just that number");
    }

    private static void eventsBelowTheFirst() {
        LeverCurtain x = machine();
        Due.is(1, x.event(0, 50, MOVED, 1), "45: the first");
        Due.is(NONE, x.event(0, 49, MOVED, 2), "45: one below the first");
        Due.is(NONE, x.event(0, 0, MOVED, 2), "45: far below the first");
        Due.is(2, x.event(0, 50, MOVED, 3), "45: just then");
        Due.is(NONE, x.event(0, 49, MOVED, 2), "45: one below the second");
        Due.is(3, x.placeAt(0, 50), "48: of these alone");
        Due.is(0, x.placeAt(0, 49), "48: nothing of those refused");
    }

    /** Twenty on each of six: each MACHINE has its own times, numbers and PLACES. */
    private static void eventsOfAllMachines() {
        LeverCurtain x = new LeverCurtain(2);
        for (int machine = 0; machine < 6; machine++) {
            x.machine(0, 0, 0, 0, 0);
            for (int i = 0; i < 20; i++) {
                int kind = i == 3 ? SEALED : i == 4 + machine ? SEEN : MOVED;
                int v = kind == MOVED ? (i + machine) % 10 : 700 + machine;
                Due.is(i + 1, x.event(machine, i == 19 ? LAST : 10 * i, kind, v), "45: on machine " + machine);
            }
            Due.is(NONE, x.event(machine, LAST, CUT, 0), "45: a twenty-first on machine " + machine);
        }
        for (int machine = 0; machine < 6; machine++) {
            Due.is(0, x.badOnes(machine), "46: on machine " + machine);
            Due.is(30, x.exposed(machine, 0, LAST), "47: on machine " + machine);
            Due.is(machine, x.placeAt(machine, 0), "48: at first on machine " + machine);
            Due.is((18 + machine) % 10, x.placeAt(machine, 9998), "48: before the last on machine " + machine);
            Due.is((19 + machine) % 10, x.placeAt(machine, LAST), "48: at last on machine " + machine);
            Due.is(20, x.alone(machine, machine, 0, LAST), "49: but for the first on machine " + machine);
        }
    }

    private static void eventsTwenty() {
        LeverCurtain x = machine();
        for (int i = 1; i <= 20; i++) {
            Due.is(i, x.event(0, 10 * i, i == 20 ? SEEN : MOVED, i % 10), "45: event " + i);
        }
        for (int kind = 0; kind < 4; kind++) {
            Due.is(NONE, x.event(0, LAST, kind, 1), "45: a twenty-first, of kind " + kind);
        }
        Due.is(1 << 19, x.badOnes(0), "46: the twentieth");
        Due.is(9, x.placeAt(0, LAST), "48: the last move");
        Due.is(8, x.placeAt(0, 189), "48: the move before");
        Due.is(LAST, x.exposed(0, 0, LAST), "47: never sealed");
    }

    private static void badNone() {
        LeverCurtain x = machine();
        Due.is(0, x.badOnes(0), "46: no event");
        event(x, 0, CUT, 0);
        event(x, 0, MOVED, 1);
        event(x, 0, SEALED, 5);
        event(x, 0, SEEN, 5);
        event(x, 0, MOVED, 2);
        event(x, 0, SEEN, 5);
        event(x, 0, CUT, 5);
        event(x, 0, CUT, 5);
        event(x, 0, SEALED, 6);
        event(x, 0, SEEN, 6);
        Due.is(0, x.badOnes(0), "46: each as it should be");
    }

    private static void badSeenWhileShut() {
        LeverCurtain x = machine();
        event(x, 10, SEALED, 5);
        event(x, 20, SEEN, 4);
        Due.is(0b10, x.badOnes(0), "46: one less");
        event(x, 30, SEEN, 5);
        Due.is(0b110, x.badOnes(0), "46: the number sealed, but it is open by now");
        event(x, 40, SEALED, 5);
        event(x, 50, SEEN, 5);
        Due.is(0b110, x.badOnes(0), "46: sealed again");
        event(x, 60, SEEN, 6);
        Due.is(0b100110, x.badOnes(0), "46: one more");
    }

    private static void badSeenWhileOpen() {
        LeverCurtain x = machine();
        event(x, 0, SEEN, 0);
        Due.is(0b1, x.badOnes(0), "46: never sealed");
        event(x, 5, SEALED, 3);
        event(x, 6, CUT, 0);
        event(x, 7, SEEN, 3);
        Due.is(0b1001, x.badOnes(0), "46: cut");
        event(x, 8, MOVED, 3);
        event(x, 9, SEEN, 3);
        Due.is(0b101001, x.badOnes(0), "46: cut still");
        Due.is(5 + LAST - 6, x.exposed(0, 0, LAST), "47: but for one unit");
    }

    private static void badSealedWhileShut() {
        LeverCurtain x = machine();
        event(x, 10, SEALED, 5);
        event(x, 20, SEALED, 5);
        Due.is(0b10, x.badOnes(0), "46: with the same number");
        event(x, 30, SEALED, 6);
        Due.is(0b110, x.badOnes(0), "46: with another number");
        Due.is(10, x.exposed(0, 0, LAST), "47: it stays shut");
        event(x, 40, SEEN, 6);
        Due.is(0b110, x.badOnes(0), "46: the new number");
        event(x, 50, SEEN, 5);
        Due.is(0b10110, x.badOnes(0), "46: the old number");
        Due.is(10 + LAST - 40, x.exposed(0, 0, LAST), "47: open since the event before");
        event(x, 60, SEALED, 7);
        Due.is(0b10110, x.badOnes(0), "46: sealed while open");
    }

    private static void badAllTwenty() {
        LeverCurtain x = machine();
        x.machine(0, 0, 0, 0, 0);
        for (int i = 0; i < 20; i++) {
            event(x, i, SEEN, 1);
            Due.is((2 << i) - 1, x.badOnes(0), "46: all of " + (i + 1));
            Due.is(0, x.badOnes(1), "46: none of another machine");
        }
    }

    private static void openSinceTheEventBefore() {
        int[] kinds = {SEALED, SEEN, MOVED};
        for (int kind : kinds) {
            LeverCurtain x = machine();
            event(x, 10, SEALED, 5);
            event(x, 30, kind, 5);
            event(x, 60, SEEN, 6);
            event(x, 70, MOVED, 6);
            event(x, 80, SEALED, 7);
            Due.is(10 + 50, x.exposed(0, 0, 100), "47: since the event of kind " + kind);
            Due.is(0, x.exposed(0, 10, 30), "47: shut before that");
            Due.is(30, x.exposed(0, 30, 60), "47: open since that");
            Due.is(20, x.exposed(0, 60, 80), "47: open till it is sealed");
            Due.is(0, x.exposed(0, 80, 100), "47: shut then");
        }
    }

    private static void exposedWithin() {
        LeverCurtain x = machine();
        int[][] wrong = {{LOW, 5}, {-1, 5}, {-1, 0}, {0, 10000}, {9999, 10000}, {10000, 10001}, {0, TOP}, {5, 4},
            {9999, 0}, {5, 5}, {0, 0}, {9999, 9999}, {5, -1}, {5, LOW}};
        for (int[] w : wrong) {
            Due.is(NONE, x.exposed(0, w[0], w[1]), "47: " + java.util.Arrays.toString(w));
            Due.is(NONE, x.alone(0, 1, w[0], w[1]), "49: " + java.util.Arrays.toString(w));
        }
        int[][] right = {{0, 1}, {0, 9999}, {9998, 9999}, {5, 6}};
        for (int[] r : right) {
            Due.is(r[1] - r[0], x.exposed(0, r[0], r[1]), "47: " + java.util.Arrays.toString(r));
            Due.is(r[1] - r[0], x.alone(0, 1, r[0], r[1]), "49: " + java.util.Arrays.toString(r));
        }
    }

    private static void exposedAtFirst() {
        LeverCurtain x = machine();
        Due.is(LAST, x.exposed(0, 0, LAST), "47: open since time 0");
        event(x, 0, SEALED, 1);
        Due.is(0, x.exposed(0, 0, LAST), "47: shut since time 0");
        LeverCurtain y = machine();
        event(y, LAST, SEALED, 1);
        Due.is(LAST, y.exposed(0, 0, LAST), "47: shut at the last time");
        LeverCurtain z = machine();
        event(z, 9998, SEALED, 1);
        Due.is(9998, z.exposed(0, 0, LAST), "47: shut for the last unit");
        LeverCurtain w = machine();
        event(w, 1, SEALED, 1);
        Due.is(1, w.exposed(0, 0, LAST), "47: open for the first unit");
    }

    private static void exposedFromTo() {
        LeverCurtain x = machine();
        event(x, 100, SEALED, 1);
        event(x, 200, CUT, 0);
        event(x, 300, SEALED, 1);
        int[][] spans = {{0, 100, 100}, {0, 101, 100}, {99, 100, 1}, {99, 101, 1}, {100, 101, 0}, {100, 200, 0},
            {199, 200, 0}, {199, 201, 1}, {200, 201, 1}, {200, 300, 100}, {201, 299, 98}, {299, 300, 1}, {299, 301, 1},
            {300, 301, 0}, {300, 9999, 0}, {150, 350, 100}, {50, 250, 100}, {0, 9999, 200}};
        for (int[] s : spans) {
            Due.is(s[2], x.exposed(0, s[0], s[1]), "47: from " + s[0] + " to " + s[1]);
        }
    }

    private static void exposedOfOneUnit() {
        LeverCurtain x = machine();
        event(x, 5, SEALED, 1);
        event(x, 6, CUT, 0);
        event(x, 7, SEALED, 1);
        event(x, 8, SEEN, 2);
        event(x, 9, SEALED, 1);
        int[] open = {1, 1, 1, 1, 1, 0, 1, 1, 1, 0, 0};
        for (int time = 0; time < open.length; time++) {
            Due.is(open[time], x.exposed(0, time, time + 1), "47: from " + time);
        }
    }

    private static void exposedAtOneTime() {
        LeverCurtain x = machine();
        event(x, 50, SEALED, 1);
        event(x, 50, CUT, 0);
        event(x, 50, SEALED, 2);
        event(x, 50, SEEN, 3);
        event(x, 50, SEALED, 4);
        Due.is(0b1000, x.badOnes(0), "46: at one time");
        Due.is(50, x.exposed(0, 0, LAST), "47: open for no time there");
        event(x, 50, SEEN, 5);
        Due.is(LAST, x.exposed(0, 0, LAST), "47: open since that time");
    }

    private static void placeWithin() {
        LeverCurtain x = machine();
        Due.is(0, x.placeAt(0, 0), "48: at first");
        Due.is(0, x.placeAt(0, LAST), "48: never moved");
        event(x, 0, MOVED, 9);
        for (int time : new int[] {LOW, -1, 10000, TOP}) {
            Due.is(NONE, x.placeAt(0, time), "48: time " + time);
        }
        Due.is(9, x.placeAt(0, 0), "48: moved at time 0");
        event(x, LAST, MOVED, 0);
        Due.is(9, x.placeAt(0, 9998), "48: before the last time");
        Due.is(0, x.placeAt(0, LAST), "48: moved at the last time");
    }

    private static void placeJustThen() {
        LeverCurtain x = machine();
        event(x, 40, MOVED, 4);
        event(x, 50, SEALED, 7);
        event(x, 60, MOVED, 6);
        event(x, 60, MOVED, 5);
        event(x, 70, CUT, 9);
        int[][] places = {{39, 0}, {40, 4}, {41, 4}, {50, 4}, {59, 4}, {60, 5}, {61, 5}, {70, 5}, {LAST, 5}};
        for (int[] p : places) {
            Due.is(p[1], x.placeAt(0, p[0]), "48: at " + p[0]);
        }
    }

    private static void aloneWithin() {
        LeverCurtain x = machine();
        for (int place : new int[] {LOW, -1, 10, TOP}) {
            Due.is(NONE, x.alone(0, place, 0, 9), "49: place " + place);
        }
        for (int place = 1; place <= 9; place++) {
            Due.is(9, x.alone(0, place, 0, 9), "49: at place 0, not at " + place);
        }
        Due.is(0, x.alone(0, 0, 0, 9), "49: at place 0");
        event(x, 0, MOVED, 9);
        Due.is(0, x.alone(0, 9, 0, LAST), "49: at place 9");
        Due.is(LAST, x.alone(0, 0, 0, LAST), "49: at place 9, not at 0");
    }

    private static void aloneAtOtherPlaces() {
        LeverCurtain x = machine();
        event(x, 20, MOVED, 3);
        event(x, 30, SEALED, 1);
        event(x, 40, MOVED, 4);
        event(x, 50, CUT, 0);
        event(x, 60, MOVED, 0);
        // open at 0 till 20, at 3 till 30, at 4 from 50 to 60, at 0 then
        int[][] spans = {{0, 0, 100, 20}, {3, 0, 100, 70}, {4, 0, 100, 70}, {9, 0, 100, 80}, {0, 19, 20, 0},
            {0, 19, 21, 1}, {0, 20, 21, 1}, {3, 19, 21, 1}, {3, 20, 21, 0}, {0, 29, 31, 1}, {9, 30, 50, 0},
            {0, 49, 51, 1}, {4, 49, 51, 0}, {4, 59, 61, 1}, {0, 59, 61, 1}, {0, 60, 9999, 0}, {4, 60, 9999, 9939}};
        for (int[] s : spans) {
            Due.is(s[3], x.alone(0, s[0], s[1], s[2]), "49: not at " + s[0] + " from " + s[1] + " to " + s[2]);
        }
        LeverCurtain y = machine();
        event(y, 10, SEALED, 1);
        event(y, 20, MOVED, 2);
        event(y, 30, SEEN, 3);
        Due.is(10, y.alone(0, 0, 0, 30), "49: open since it was moved");
        Due.is(10, y.alone(0, 2, 0, 30), "49: open before it was sealed");
    }

    private static void recountWithin() {
        LeverCurtain x = machine();
        int[][] wrong = {{LOW, 0, 1}, {-1, 0, 1}, {1, 0, 1}, {6, 0, 1}, {TOP, 0, 1}, {0, LOW, 1}, {0, -1, 1}, {0, 3, 1},
            {0, 16, 1}, {0, TOP, 1}, {0, 0, LOW}, {0, 0, -1}, {0, 0, 1000}, {0, 0, TOP}};
        for (int[] w : wrong) {
            Due.is(NONE, x.recount(w[0], w[1], w[2]), "50: " + java.util.Arrays.toString(w));
        }
        Due.is(NONE, x.kept(0, 0, 0), "51: none is kept");
        Due.is(0, x.differs(0), "53: none differs");
        Due.is(1, x.recount(0, 0, 0), "50: 0");
        Due.is(2, x.recount(0, 0, 999), "50: 999");
        Due.is(1, x.recount(0, 2, 1), "50: the last lever");
        Due.is(0, x.kept(0, 0, 0), "51: 0");
        Due.is(999, x.kept(0, 0, 1), "51: 999");
        Due.is(1, x.kept(0, 2, 0), "51: of the last lever");
    }

    private static void recountsEight() {
        LeverCurtain x = machine();
        for (int i = 0; i < 8; i++) {
            Due.is(i + 1, x.recount(0, 0, 10 * i), "50: recount " + i);
        }
        for (int number : new int[] {0, 70, 999}) {
            Due.is(NONE, x.recount(0, 0, number), "50: a ninth of " + number);
        }
        Due.is(70, x.kept(0, 0, 7), "51: the eighth stays");
        Due.is(7, x.changed(0, 0), "52: seven changes");
        Due.is(1, x.recount(0, 1, 5), "50: the first of another lever");
        Due.is(2, x.take(0), "54: both are taken");
        Due.is(NONE, x.recount(0, 0, 1), "50: a ninth, as all are kept");
        Due.is(8, x.changed(0, 0), "52: the first is unlike what is shown now");
    }

    private static void recountsOfAllMachines() {
        LeverCurtain x = new LeverCurtain(16);
        for (int machine = 0; machine < 6; machine++) {
            x.machine(0, 0, 0, 0, 0);
            for (int i = 0; i < 8; i++) {
                Due.is(i + 1, x.recount(machine, 15, 100 * machine + i), "50: of the last lever");
                Due.is(i + 1, x.recount(machine, 0, 100 * machine + 50 + i), "50: of the first lever");
            }
        }
        for (int machine = 0; machine < 6; machine++) {
            for (int i = 0; i < 8; i++) {
                Due.is(100 * machine + i, x.kept(machine, 15, i), "51: of the last lever of machine " + machine);
                Due.is(100 * machine + 50 + i, x.kept(machine, 0, i), "51: of the first lever of machine " + machine);
            }
            Due.is(1 << 15 | 1, x.differs(machine), "53: the first and the last of machine " + machine);
            Due.is(machine == 0 ? 7 : 8, x.changed(machine, 15), "52: of the last lever of machine " + machine);
            Due.is(2, x.take(machine), "54: the first and the last of machine " + machine);
        }
    }

    private static void keptWithin() {
        LeverCurtain x = machine();
        x.recount(0, 1, 11);
        x.recount(0, 1, 12);
        int[][] wrong = {{LOW, 1, 0}, {-1, 1, 0}, {1, 1, 0}, {TOP, 1, 0}, {0, LOW, 0}, {0, -1, 0}, {0, 3, 0}, {0, TOP, 0},
            {0, 1, LOW}, {0, 1, -1}, {0, 1, 2}, {0, 1, 8}, {0, 1, TOP}, {0, 0, 0}, {0, 2, 0}};
        for (int[] w : wrong) {
            Due.is(NONE, x.kept(w[0], w[1], w[2]), "51: " + java.util.Arrays.toString(w));
        }
        Due.is(11, x.kept(0, 1, 0), "51: the first");
        Due.is(12, x.kept(0, 1, 1), "51: the last");
    }

    private static void changedFromWhatIsShown() {
        LeverCurtain x = machine();
        for (int[] w : new int[][] {{LOW, 0}, {-1, 0}, {1, 0}, {TOP, 0}, {0, LOW}, {0, -1}, {0, 3}, {0, TOP}}) {
            Due.is(NONE, x.changed(w[0], w[1]), "52: " + java.util.Arrays.toString(w));
        }
        Due.is(0, x.changed(0, 2), "52: none");
        x.recount(0, 2, 0);
        Due.is(0, x.changed(0, 2), "52: like what is shown at first");
        x.recount(0, 2, 0);
        Due.is(0, x.changed(0, 2), "52: like the one before");
        x.show(0, 2, 1);
        Due.is(1, x.changed(0, 2), "52: unlike what is shown now");
        x.recount(0, 2, 1);
        Due.is(2, x.changed(0, 2), "52: unlike the one before");
        x.recount(0, 2, 0);
        Due.is(3, x.changed(0, 2), "52: unlike the one before");
        x.take(0);
        Due.is(2, x.changed(0, 2), "52: like what is shown now");
        Due.is(0, x.changed(0, 1), "52: none of another lever");
    }

    private static void differsNoneAndAll() {
        LeverCurtain x = new LeverCurtain(16);
        Due.is(NONE, x.differs(0), "53: no machine");
        Due.is(NONE, x.take(0), "54: no machine");
        x.machine(9, 0, 0, 0, 0);
        Due.is(0, x.differs(0), "53: no recount");
        x.show(0, 3, 5);
        Due.is(0, x.differs(0), "53: shown, but no recount");
        x.show(0, 3, 0);
        for (int lever = 0; lever < 16; lever++) {
            x.recount(0, lever, 0);
            Due.is((1 << lever) - 1, x.differs(0), "53: as shown");
            x.recount(0, lever, 1);
            Due.is((2 << lever) - 1, x.differs(0), "53: one more than shown");
        }
        for (int lever = 0; lever < 16; lever++) {
            x.show(0, lever, 1);
            Due.is(65535 & ~((2 << lever) - 1), x.differs(0), "53: shown so");
        }
        for (int machine : new int[] {LOW, -1, 1, 6, TOP}) {
            Due.is(NONE, x.differs(machine), "53: machine " + machine);
            Due.is(NONE, x.take(machine), "54: machine " + machine);
        }
    }

    private static void takenNoneAndAll() {
        LeverCurtain x = new LeverCurtain(16);
        x.office(65535, 16);
        x.machine(999, 0, 0, 0, 0);
        x.machine(999, 0, 0, 0, 0);
        x.show(0, 4, 44);
        Due.is(0, x.take(0), "54: no recount");
        Due.is(44, x.span(0, 4, 0), "54: what has no recount stays");
        for (int lever = 0; lever < 16; lever++) {
            x.recount(0, lever, 5);
            x.recount(0, lever, 900 + lever);
        }
        Due.is(65535, x.differs(0), "53: all");
        Due.is(16, x.take(0), "54: all");
        for (int lever = 0; lever < 16; lever++) {
            Due.is(900 + lever, x.span(0, lever, 0), "54: the latest of lever " + lever);
            Due.is(5, x.kept(0, lever, 0), "54: the first is kept");
            Due.is(900 + lever, x.kept(0, lever, 1), "54: the latest is kept");
            Due.is(0, x.span(1, lever, 1), "54: the other machine");
        }
        Due.is(0, x.differs(0), "53: none");
        Due.is(0, x.take(0), "54: none is shown otherwise");
        x.recount(0, 15, 915);
        Due.is(0, x.take(0), "54: the same again");
        x.recount(0, 15, 914);
        Due.is(1, x.take(0), "54: one");
        x.show(0, 15, 3);
        Due.is(1, x.take(0), "54: the latest is taken again");
        Due.is(914, x.span(0, 15, 0), "54: the latest");
    }
}
