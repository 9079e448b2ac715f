/** Promises 43 to 54: ABSENT ones, SEALS, PLACES and RECOUNTS. */
public final class SealTest {
    private static final int NONE = LeverCurtain.NONE;
    private static final int HIDDEN = LeverCurtain.HIDDEN;
    private static final int SEALED = 0;
    private static final int SEEN = 1;
    private static final int CUT = 2;
    private static final int MOVED = 3;

    public static void main(String[] args) {
        absents();
        joined();
        events();
        badEvents();
        parts();
        spans();
        places();
        alone();
        recounts();
        changes();
        differences();
        taking();
        Due.end();
    }

    private static void absents() {
        LeverCurtain x = new LeverCurtain(3);
        x.office(3, 1);
        int[][] wrong = {{3, 0, 0}, {-1, 0, 0}, {0, -1, 0}, {0, 0, 10000}, {0, 5, 4}, {0, 10000, 10000}, {0, 0, -1}};
        for (int[] w : wrong) {
            Due.no(x.absent(w[0], w[1], w[2]), "absent " + java.util.Arrays.toString(w));
        }
        Due.is(0, x.joinedAhead(0, 1), "nothing was told");
        Due.yes(x.absent(0, 0, 0), "none absent");
        Due.yes(x.absent(1, 9999, 9999), "all absent");
        Due.yes(x.absent(2, 4, 9999), "of a lever of no office");
        Due.is(9999, x.joinedAhead(1, 0), "the greatest lead");
        Due.is(-9999, x.joinedAhead(0, 1), "the least lead");
    }

    private static void joined() {
        LeverCurtain x = new LeverCurtain(5);
        x.office(7, 1);
        x.office(8, 1);
        x.machine(50, 0, 0, 0, 0);
        x.show(0, 0, 20);
        x.show(0, 1, 5);
        x.absent(0, 3, 10);
        x.absent(1, 2, 9);
        Due.is(15 + 3 - 9, x.joinedAhead(0, 1), "0 before 1");
        Due.is(-15 + 2 - 10, x.joinedAhead(1, 0), "1 before 0");
        Due.is(20 + 3, x.joinedAhead(0, 2), "0 before 2");
        Due.is(15, x.ahead(0, 1), "ahead alone is as it was");
        int[][] hidden = {{0, 0}, {0, 3}, {0, 4}, {4, 4}, {5, 0}, {0, -1}};
        for (int[] pair : hidden) {
            Due.is(HIDDEN, x.joinedAhead(pair[0], pair[1]), "joined " + java.util.Arrays.toString(pair));
        }
        x.show(0, 0, 51);
        Due.is(HIDDEN, x.joinedAhead(0, 1), "no set fits");
    }

    private static LeverCurtain machine() {
        LeverCurtain x = new LeverCurtain(3);
        Due.is(0, x.machine(9, 0, 0, 0, 0), "machine");
        return x;
    }

    private static void events() {
        LeverCurtain x = machine();
        int[][] wrong = {{1, 0, 0, 0}, {-1, 0, 0, 0}, {0, -1, 0, 0}, {0, 10000, 0, 0}, {0, 0, -1, 0}, {0, 0, 4, 0},
            {0, 0, SEALED, -1}, {0, 0, SEALED, 10000}, {0, 0, SEEN, -1}, {0, 0, SEEN, 10000}, {0, 0, MOVED, -1},
            {0, 0, MOVED, 10}};
        for (int[] w : wrong) {
            Due.is(NONE, x.event(w[0], w[1], w[2], w[3]), "event " + java.util.Arrays.toString(w));
        }
        Due.is(0, x.badOnes(0), "no event came");
        Due.is(1, x.event(0, 0, SEALED, 9999), "sealed with the greatest number");
        Due.is(2, x.event(0, 0, SEEN, 9999), "seen at the same time");
        Due.is(3, x.event(0, 5, CUT, Integer.MIN_VALUE), "cut, with any v");
        Due.is(4, x.event(0, 5, MOVED, 9), "moved to the greatest place");
        Due.is(NONE, x.event(0, 4, MOVED, 0), "a time below");
        Due.is(5, x.event(0, 5, SEALED, 0), "sealed with the least number");
        Due.is(6, x.event(0, 9999, MOVED, 0), "at the last time");
        for (int event = 7; event <= 20; event++) {
            Due.is(event, x.event(0, 9999, SEEN, 0), "event " + event);
        }
        Due.is(NONE, x.event(0, 9999, SEEN, 0), "a twenty-first event");
        Due.is(0, x.badOnes(0), "none is bad");
        Due.is(1, x.machine(0, 0, 0, 0, 0), "another machine");
        Due.is(1, x.event(1, 3, SEEN, 0), "its first event");
        Due.is(1, x.badOnes(1), "seen before it was sealed");
        Due.is(NONE, x.badOnes(2), "no such machine");
        Due.is(NONE, x.badOnes(-1), "no such machine");
    }

    /** Events at 10, 20, 30 and so on; then which are bad, and how long it was open till 100. */
    private static void told(int bad, int open, int... kindsAndValues) {
        LeverCurtain x = machine();
        for (int i = 0; i < kindsAndValues.length; i += 2) {
            x.event(0, 10 + 5 * i, kindsAndValues[i], kindsAndValues[i + 1]);
        }
        String what = java.util.Arrays.toString(kindsAndValues);
        Due.is(bad, x.badOnes(0), "bad of " + what);
        Due.is(open, x.exposed(0, 0, 100), "exposed of " + what);
    }

    private static void badEvents() {
        told(0, 100);
        told(0, 10, SEALED, 5);
        told(0, 10, SEALED, 5, SEEN, 5, SEEN, 5);
        told(0b010, 100, SEALED, 5, SEEN, 6);
        told(0b110, 100, SEALED, 5, SEEN, 6, SEEN, 5);
        told(0b010, 30, SEALED, 5, SEEN, 6, SEALED, 5, SEEN, 5);
        told(0b100, 10 + 80, SEALED, 5, SEEN, 5, SEEN, 6);
        told(0b100, 10 + 80, SEALED, 5, MOVED, 5, SEEN, 6);
        told(0b010, 10, SEALED, 5, SEALED, 6, SEEN, 6);
        told(0b110, 10 + 80, SEALED, 5, SEALED, 6, SEEN, 5);
        told(0, 10 + 80, SEALED, 5, CUT, 0);
        told(0b100, 10 + 80, SEALED, 5, CUT, 0, SEEN, 5);
        told(0, 10 + 10, SEALED, 5, CUT, 0, SEALED, 6, SEEN, 6);
        told(0b1, 100, SEEN, 0);
        told(0, 100, CUT, 0, CUT, 0, MOVED, 3);
        told(0b111, 100, SEEN, 0, SEEN, 0, SEEN, 0);
        told(0, 10, SEALED, 0, MOVED, 1, SEEN, 0);
    }

    private static void parts() {
        LeverCurtain x = machine();
        x.event(0, 10, SEALED, 1);
        x.event(0, 10, CUT, 0);
        x.event(0, 10, SEALED, 2);
        x.event(0, 20, SEEN, 2);
        x.event(0, 20, SEEN, 3);
        x.event(0, 20, SEALED, 4);
        Due.is(0b10000, x.badOnes(0), "bad at the same time");
        Due.is(10, x.exposed(0, 0, 50), "parts without length");
    }

    private static void spans() {
        LeverCurtain x = machine();
        Due.is(9999, x.exposed(0, 0, 9999), "open from first to last");
        x.event(0, 100, SEALED, 1);
        x.event(0, 200, CUT, 0);
        x.event(0, 300, SEALED, 1);
        int[][] spans = {{0, 9999, 200}, {0, 100, 100}, {0, 99, 99}, {99, 101, 1}, {100, 200, 0}, {150, 250, 50},
            {210, 220, 10}, {200, 300, 100}, {199, 301, 100}, {300, 9999, 0}, {299, 300, 1}, {9998, 9999, 0}};
        for (int[] span : spans) {
            Due.is(span[2], x.exposed(0, span[0], span[1]), "exposed " + java.util.Arrays.toString(span));
        }
        int[][] wrong = {{5, 5}, {5, 4}, {-1, 4}, {0, 10000}, {10000, 10001}, {-5, -4}};
        for (int[] span : wrong) {
            Due.is(NONE, x.exposed(0, span[0], span[1]), "exposed " + java.util.Arrays.toString(span));
            Due.is(NONE, x.alone(0, 1, span[0], span[1]), "alone " + java.util.Arrays.toString(span));
        }
        Due.is(NONE, x.exposed(1, 0, 1), "no such machine");
        Due.is(NONE, x.exposed(-1, 0, 1), "no such machine");
    }

    private static void places() {
        LeverCurtain x = machine();
        Due.is(0, x.placeAt(0, 9999), "never moved");
        x.event(0, 10, MOVED, 3);
        x.event(0, 20, SEALED, 7);
        x.event(0, 30, MOVED, 4);
        x.event(0, 30, MOVED, 5);
        int[][] want = {{0, 0}, {9, 0}, {10, 3}, {20, 3}, {29, 3}, {30, 5}, {9999, 5}, {10000, NONE}, {-1, NONE}};
        for (int[] pair : want) {
            Due.is(pair[1], x.placeAt(0, pair[0]), "place at " + pair[0]);
        }
        Due.is(NONE, x.placeAt(1, 0), "no such machine");
        Due.is(NONE, x.placeAt(-1, 0), "no such machine");
        LeverCurtain six = new LeverCurtain(2);
        for (int machine = 0; machine < 6; machine++) {
            six.machine(0, 0, 0, 0, 0);
            for (int event = 1; event <= 20; event++) {
                int kind = event == 10 ? SEALED : event == 12 ? SEEN : MOVED;
                Due.is(event, six.event(machine, 10 * event + machine, kind, (event + machine) % 10), "event");
            }
        }
        for (int machine = 0; machine < 6; machine++) {
            Due.is((19 + machine) % 10, six.placeAt(machine, 199 + machine), "place on machine " + machine);
            Due.is((20 + machine) % 10, six.placeAt(machine, 200 + machine), "the last place on it");
            Due.is((20 + machine) % 10, six.placeAt(machine, 9999), "the last place on it, later");
            Due.is(1 << 11, six.badOnes(machine), "bad on machine " + machine);
            Due.is(9999 - 10, six.exposed(machine, 0, 9999), "exposed on machine " + machine);
        }
    }

    private static void alone() {
        LeverCurtain x = machine();
        Due.is(0, x.alone(0, 0, 0, 9999), "open, but at place 0");
        Due.is(9999, x.alone(0, 9, 0, 9999), "open at another place than 9");
        x.event(0, 10, MOVED, 3);
        x.event(0, 30, SEALED, 7);
        x.event(0, 40, MOVED, 0);
        x.event(0, 60, SEEN, 8);
        x.event(0, 70, MOVED, 2);
        // open at 0 till 10, at 3 till 30, at 0 from 40 to 70, then at 2
        int[][] want = {{0, 0, 100, 50}, {1, 0, 100, 90}, {2, 0, 100, 60}, {3, 0, 100, 70}, {0, 5, 15, 5},
            {3, 5, 15, 5}, {0, 25, 75, 10}, {2, 25, 75, 35}, {0, 30, 70, 0}, {9, 30, 41, 1}};
        for (int[] w : want) {
            Due.is(w[3], x.alone(0, w[0], w[1], w[2]), "alone " + java.util.Arrays.toString(w));
        }
        Due.is(NONE, x.alone(0, -1, 0, 1), "place -1");
        Due.is(NONE, x.alone(0, 10, 0, 1), "place 10");
        Due.is(NONE, x.alone(1, 0, 0, 1), "no such machine");
        Due.is(NONE, x.alone(-1, 0, 0, 1), "no such machine");
    }

    private static void recounts() {
        LeverCurtain x = machine();
        int[][] wrong = {{1, 0, 0}, {-1, 0, 0}, {0, 3, 0}, {0, -1, 0}, {0, 0, 1000}, {0, 0, -1}};
        for (int[] w : wrong) {
            Due.is(NONE, x.recount(w[0], w[1], w[2]), "recount " + java.util.Arrays.toString(w));
        }
        Due.is(NONE, x.kept(0, 2, 0), "none is kept");
        for (int i = 0; i < 8; i++) {
            Due.is(i + 1, x.recount(0, 2, 999 - i), "recount " + i);
        }
        Due.is(NONE, x.recount(0, 2, 5), "a ninth recount");
        Due.is(1, x.recount(0, 1, 0), "of another lever");
        LeverCurtain six = new LeverCurtain(16);
        for (int machine = 0; machine < 6; machine++) {
            six.machine(0, 0, 0, 0, 0);
            for (int i = 0; i < 8; i++) {
                Due.is(i + 1, six.recount(machine, 15, 100 * machine + i), "recount of the last lever");
                Due.is(i + 1, six.recount(machine, 0, 500 + i), "recount of the first lever");
            }
        }
        for (int machine = 0; machine < 6; machine++) {
            for (int i = 0; i < 8; i++) {
                Due.is(100 * machine + i, six.kept(machine, 15, i), "kept of the last lever");
            }
            Due.is(NONE, six.recount(machine, 15, 1), "a ninth of the last lever");
            Due.is(1 << 15 | 1, six.differs(machine), "the first and the last differ");
            Due.is(2, six.take(machine), "both are taken");
            Due.is(8, six.changed(machine, 15), "each is unlike the one before");
        }
        for (int i = 0; i < 8; i++) {
            Due.is(999 - i, x.kept(0, 2, i), "kept " + i);
        }
        Due.is(0, x.kept(0, 1, 0), "kept of another lever");
        int[][] none = {{0, 2, 8}, {0, 2, -1}, {0, 1, 1}, {0, 0, 0}, {0, 3, 0}, {0, -1, 0}, {1, 2, 0}, {-1, 2, 0}};
        for (int[] w : none) {
            Due.is(NONE, x.kept(w[0], w[1], w[2]), "kept " + java.util.Arrays.toString(w));
        }
    }

    private static void changes() {
        LeverCurtain x = machine();
        Due.is(0, x.changed(0, 0), "no recount");
        x.recount(0, 0, 0);
        Due.is(0, x.changed(0, 0), "as shown at first");
        x.show(0, 0, 5);
        Due.is(1, x.changed(0, 0), "unlike what is shown now");
        x.recount(0, 0, 5);
        Due.is(2, x.changed(0, 0), "unlike the one before");
        x.recount(0, 0, 5);
        Due.is(2, x.changed(0, 0), "like the one before");
        x.recount(0, 0, 0);
        x.show(0, 0, 0);
        Due.is(2, x.changed(0, 0), "two changes, and back");
        int[][] none = {{0, 3}, {0, -1}, {1, 0}, {-1, 0}};
        for (int[] w : none) {
            Due.is(NONE, x.changed(w[0], w[1]), "changed " + java.util.Arrays.toString(w));
        }
    }

    private static void differences() {
        LeverCurtain x = machine();
        x.show(0, 0, 5);
        x.show(0, 2, 7);
        Due.is(0, x.differs(0), "no recount");
        x.recount(0, 0, 5);
        x.recount(0, 1, 1);
        x.recount(0, 2, 8);
        Due.is(0b110, x.differs(0), "two differ");
        x.recount(0, 2, 7);
        Due.is(0b010, x.differs(0), "the latest counts");
        x.recount(0, 0, 4);
        Due.is(0b011, x.differs(0), "the latest counts");
        Due.is(NONE, x.differs(1), "no such machine");
        Due.is(NONE, x.differs(-1), "no such machine");
    }

    private static void taking() {
        LeverCurtain x = machine();
        x.office(7, 3);
        x.machine(9, 0, 0, 0, 0);
        x.show(0, 0, 5);
        x.show(0, 2, 7);
        x.show(1, 0, 3);
        Due.is(0, x.take(0), "nothing to take");
        x.recount(0, 0, 5);
        x.recount(0, 1, 9);
        x.recount(0, 1, 1);
        x.recount(0, 2, 0);
        Due.is(2, x.take(0), "two are shown otherwise");
        int[] shown = {5, 1, 0};
        for (int lever = 0; lever < 3; lever++) {
            Due.is(shown[lever], x.span(0, lever, 0), "shown of lever " + lever);
        }
        Due.is(3, x.span(1, 0, 0), "the other machine is as it was");
        Due.is(0, x.differs(0), "none differs");
        Due.is(0, x.take(0), "taken again");
        Due.is(9, x.kept(0, 1, 0), "all are kept");
        Due.is(1, x.kept(0, 1, 1), "all are kept");
        Due.is(2, x.changed(0, 1), "1 to 9 to 1");
        Due.is(NONE, x.take(2), "no such machine");
        Due.is(NONE, x.take(-1), "no such machine");
    }
}
