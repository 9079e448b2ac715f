import java.util.List;
import java.util.function.Supplier;
import java.util.function.ToLongFunction;

/**
 * "What is refused answers as told and changes nothing": each refused call of each promise is made on one of
 * two like objects, and both answer all that can be asked alike behind it. Calls that only ask are tried so too.
 */
public final class RefusalTest {
    private static final int NONE = LeverCurtain.NONE;
    private static final int HIDDEN = LeverCurtain.HIDDEN;
    private static final int LOW = Integer.MIN_VALUE;
    private static final int TOP = Integer.MAX_VALUE;

    private interface Call {
        boolean of(LeverCurtain x);
    }

    public static void main(String[] args) {
        Due.yes(Sight.of(Scene.some()).equals(Sight.of(Scene.some())), "like objects are like");
        Due.no(Sight.of(Scene.some()).equals(Sight.of(Scene.full())), "unlike objects are unlike");
        booth();
        fullBooth();
        laws();
        fullLaws();
        machines();
        fullMachines();
        spans();
        openings();
        trials();
        words();
        fullWords();
        hands();
        absents();
        events();
        recounts();
        asked();
        Due.end();
    }

    /** Makes a call on one of two like objects; both must be alike behind it. */
    private static void still(String what, Supplier<LeverCurtain> scene, ToLongFunction<LeverCurtain> call, Long want) {
        LeverCurtain one = scene.get();
        LeverCurtain other = scene.get();
        long got = call.applyAsLong(one);
        if (want != null) {
            Due.is(want, got, what);
        }
        List<String> behind = Sight.of(one);
        List<String> due = Sight.of(other);
        for (int i = 0; i < due.size(); i++) {
            if (!behind.get(i).equals(due.get(i))) {
                Due.yes(false, "behind " + what + " stands " + behind.get(i) + ", not " + due.get(i) + "; the same");
                return;
            }
        }
        Due.yes(true, what);
    }

    private static void none(String what, ToLongFunction<LeverCurtain> call) {
        still(what, Scene::some, call, (long) NONE);
    }

    private static void hidden(String what, ToLongFunction<LeverCurtain> call) {
        still(what, Scene::some, call, (long) HIDDEN);
    }

    private static void no(String what, Call call) {
        still(what, Scene::some, x -> call.of(x) ? 1 : 0, 0L);
    }

    private static void fullNone(String what, ToLongFunction<LeverCurtain> call) {
        still(what, Scene::full, call, (long) NONE);
    }

    /** With this text on the TAPE. */
    private static void noneOf(String text, String what, ToLongFunction<LeverCurtain> call) {
        still(what + " of «" + text + "»", () -> taped(Scene.some(), text), call, (long) NONE);
    }

    private static LeverCurtain taped(LeverCurtain x, String text) {
        Scene.feed(x, text);
        return x;
    }

    private static void booth() {
        for (int levers : new int[] {0, 32, 16 | 32, -1, LOW, 1 << 30 | 16}) {
            none("2: office(" + levers + ", 1)", x -> x.office(levers, 1));
            none("3: strap(" + levers + ", 1)", x -> x.strap(levers, 1));
            none("3: strap(" + levers + ", 0)", x -> x.strap(levers, 0));
        }
        for (int levers : new int[] {1, 2, 3, 4, 8, 17, 24, 31}) {
            none("2: office(" + levers + ", 1), others' among them", x -> x.office(levers, 1));
        }
        for (int k : new int[] {0, 2, -1, LOW, TOP}) {
            none("2: office(16, " + k + ")", x -> x.office(16, k));
        }
        for (int most : new int[] {-1, 3, LOW, TOP}) {
            none("3: strap(3, " + most + ")", x -> x.strap(3, most));
        }
        for (int row : new int[] {-1, 32, LOW, TOP}) {
            none("5: may(" + row + ", 0)", x -> x.may(row, 0));
            none("5: may(" + row + ", 1)", x -> x.may(row, 1));
            none("9: orders(" + row + ")", x -> x.orders(row));
            none("29: test(" + row + ", 1)", x -> x.test(row, 1));
        }
        for (int what : new int[] {-1, 2, LOW, TOP}) {
            none("5: may(1, " + what + ")", x -> x.may(1, what));
            none("6: proof(" + what + ")", x -> x.proof(what));
        }
        for (int what : new int[] {-1, 9, LOW, TOP}) {
            hidden("55: count(" + what + ")", x -> x.count(what));
        }
        still("4: unstrap() with none", () -> new LeverCurtain(4), x -> x.unstrap(), (long) NONE);
        still("9: orders of eleven", () -> new LeverCurtain(16), x -> x.orders(2047), (long) NONE);
    }

    private static void fullBooth() {
        fullNone("2: a seventh office", x -> x.office(128, 1));
        fullNone("3: an eleventh strap", x -> x.strap(128, 1));
    }

    private static void laws() {
        String full = "y:1" + "+1".repeat(58);
        still("10: feed above 120", () -> taped(Scene.some(), full), x -> x.feed(0, 0, '+' << 8 | '1', 0, 0),
            (long) NONE);
        still("10: feed far above 120", () -> taped(Scene.some(), full), x -> x.feed(-1, -1, -1, -1, -1),
            (long) NONE);
        for (int n : new int[] {-1, 5, 120, LOW, TOP}) {
            no("11: end(" + n + ")", x -> x.end(n));
        }
        for (String text : new String[] {"", "y", "y:", "y:12345", "y:1;", "anna", "y:1=1", "y:[[[[[[[1]]]]]]]"}) {
            noneOf(text, "13: law", LeverCurtain::law);
        }
        for (int law : new int[] {2, -2, 4, LOW, TOP}) {
            no("14: use(" + law + ")", x -> x.use(law));
        }
        for (int book = 0; book < 5; book++) {
            for (int value : new int[] {-1, 1000, LOW, TOP}) {
                int[] b = new int[5];
                b[book] = value;
                none("15: book " + book + " of " + value, x -> x.machine(b[0], b[1], b[2], b[3], b[4]));
            }
        }
        for (int machine : new int[] {-1, 3, 6, LOW, TOP}) {
            none("16: voters(" + machine + ")", x -> x.voters(machine));
            none("17: agree(" + machine + ")", x -> x.agree(machine));
        }
    }

    private static void fullLaws() {
        still("13: a fifth law", () -> taped(Scene.full(), "y:1"), LeverCurtain::law, (long) NONE);
        fullNone("15: a seventh machine", x -> x.machine(1, 1, 1, 1, 1));
    }

    private static void machines() {
        int[][] shows = {{-1, 0, 1}, {3, 0, 1}, {LOW, 0, 1}, {0, -1, 1}, {0, 5, 1}, {0, 15, 1}, {0, TOP, 1},
            {0, 0, -1}, {0, 0, 1000}, {0, 0, LOW}, {0, 0, TOP}};
        for (int[] s : shows) {
            no("18: show " + java.util.Arrays.toString(s), x -> x.show(s[0], s[1], s[2]));
        }
        int[][] troubles = {{-1, 2, 0, 0}, {3, 2, 0, 0}, {TOP, 2, 0, 0}, {0, -1, 0, 0}, {0, 5, 0, 0}, {0, LOW, 0, 0},
            {0, 0, -1, 0}, {0, 0, 5, 0}, {0, 0, 0, -1}, {0, 0, 0, 2}, {0, 1, -1, 0}, {0, 1, 5, 0}, {0, 1, 0, -1},
            {0, 1, 0, 5}, {0, 1, 0, 0}, {0, 1, 4, 4}, {0, 2, -1, 0}, {0, 2, 5, 0}, {0, 3, -1, 1}, {0, 3, 5, 1},
            {0, 3, 0, 0}, {0, 3, 0, 1000}, {0, 3, 0, -5}, {0, 4, -1, 0}, {0, 4, 2, 0}, {0, 4, 6, 0}};
        for (int[] t : troubles) {
            none("19: trouble " + java.util.Arrays.toString(t), x -> x.trouble(t[0], t[1], t[2], t[3]));
        }
    }

    private static void fullMachines() {
        for (int kind = 0; kind < 5; kind++) {
            int k = kind;
            fullNone("19: a ninth fault of kind " + kind, x -> x.trouble(0, k, 0, 1));
        }
    }

    private static void spans() {
        for (int machine : new int[] {-1, 3, 6, LOW, TOP}) {
            none("20: fitting(" + machine + ", -1)", x -> x.fitting(machine, -1));
            none("20: fitting(" + machine + ", 0)", x -> x.fitting(machine, 0));
            none("21: sets(" + machine + ", 0)", x -> x.sets(machine, 0));
            none("22: span(" + machine + ", 0, 0)", x -> x.span(machine, 0, 0));
        }
        for (int i : new int[] {-2, 4, 256, LOW, TOP}) {
            none("20: fitting(0, " + i + ")", x -> x.fitting(0, i));
        }
        for (int what : new int[] {-1, 2, LOW, TOP}) {
            none("21: sets(0, " + what + ")", x -> x.sets(0, what == 2 ? 3 : what));
            none("22: span(0, 0, " + what + ")", x -> x.span(0, 0, what));
            none("24: total(0, " + what + ")", x -> x.total(0, what));
            none("28: till(0, " + what + ")", x -> x.till(0, what));
        }
        for (int lever : new int[] {-1, 4, 5, 16, LOW, TOP}) {
            none("22: span(0, " + lever + ", 0)", x -> x.span(0, lever, 0));
            none("24: total(" + lever + ", 0)", x -> x.total(lever, 0));
            none("28: till(" + lever + ", 0)", x -> x.till(lever, 0));
            none("33: first(" + lever + ")", x -> x.first(lever, 1, 1));
            hidden("25: ahead(0, " + lever + ")", x -> x.ahead(0, lever));
            hidden("25: ahead(" + lever + ", 0)", x -> x.ahead(lever, 0));
            hidden("44: joinedAhead(0, " + lever + ")", x -> x.joinedAhead(0, lever));
            hidden("44: joinedAhead(" + lever + ", 0)", x -> x.joinedAhead(lever, 0));
        }
        for (int lever : new int[] {0, 2}) {
            hidden("25: ahead(0, " + lever + ")", x -> x.ahead(0, lever));
            hidden("44: joinedAhead(0, " + lever + ")", x -> x.joinedAhead(0, lever));
        }
        for (int office : new int[] {-1, 2, 6, LOW, TOP}) {
            none("26: wins(" + office + ")", x -> x.wins(office));
        }
    }

    /** MACHINE 2 is OPENED with its FAULT 1, without which no set of its FITS. */
    private static void openings() {
        int[][] opens = {{-1, 0}, {3, 0}, {-1, -1}, {3, -1}, {LOW, 0}, {2, 4}, {2, -2}, {2, LOW}, {2, TOP}, {0, 4}, {2, 0},
            {2, 1}, {2, 256}};
        for (int[] o : opens) {
            no("23: open(" + o[0] + ", " + o[1] + ")", x -> x.open(o[0], o[1]));
        }
        int[][] costs = {{-1, 1}, {3, 1}, {TOP, 1}, {0, 0}, {0, 51}, {1, -1}, {1, 0}, {1, 51}, {1, LOW}, {0, TOP}};
        for (int[] c : costs) {
            no("27: cost(" + c[0] + ", " + c[1] + ")", x -> x.cost(c[0], c[1]));
        }
    }

    private static void trials() {
        for (int times : new int[] {-1, 201, LOW, TOP}) {
            none("29: test(1, " + times + ")", x -> x.test(1, times));
        }
        fullNone("29: a ninth test", x -> x.test(1, 1));
        int[][] sees = {{-1, 0}, {2, 0}, {8, 0}, {0, -1}, {0, 3}, {LOW, 0}, {0, TOP}};
        for (int[] s : sees) {
            none("30: sees(" + s[0] + ", " + s[1] + ")", x -> x.sees(s[0], s[1]));
        }
        for (int machine : new int[] {-1, 3, LOW, TOP}) {
            none("31: cover(" + machine + ")", x -> x.cover(machine));
        }
        int[][] names = {{-1, 0, 0}, {2, 0, 0}, {0, -1, 0}, {0, 6, 0}, {0, 0, -1}, {0, 0, 2}, {LOW, 0, 0}, {0, TOP, 0},
            {0, 0, LOW}};
        for (int[] n : names) {
            none("32: name " + java.util.Arrays.toString(n), x -> x.name(n[0], 7, n[1], n[2]));
        }
        for (int machines : new int[] {0, -1, 101, LOW, TOP}) {
            none("33: first on " + machines, x -> x.first(0, 7, machines));
        }
    }

    private static void words() {
        for (String text : new String[] {"", "abcdefghi", "ab.", "Ab", "a b", "a1", "anna", "hanna", "z{", "`a"}) {
            noneOf(text, "34: known", LeverCurtain::known);
        }
        for (String text : new String[] {"", "abcdefghi", "Ab", "a b", "a1", "z{", "`a", "a-", "a/"}) {
            noneOf(text, "35: read", x -> x.read(0, 0) ? 1 : NONE);
        }
        int[][] places = {{-1, 0}, {4, 0}, {0, -1}, {0, 30}, {LOW, 0}, {TOP, 0}, {0, LOW}, {0, TOP}, {4, 1}, {-4, 1}};
        for (int[] p : places) {
            no("35: read(" + p[0] + ", " + p[1] + ")", x -> x.read(p[0], p[1]));
            none("37: far(" + p[0] + ", " + p[1] + ", 0)", x -> x.far(p[0], p[1], 0));
            none("38: goes(" + p[0] + ", " + p[1] + ")", x -> x.goes(p[0], p[1]));
        }
        for (int v : new int[] {-1, 9, LOW, TOP}) {
            no("36: limit(" + v + ")", x -> x.limit(v));
        }
    }

    private static void fullWords() {
        fullNone("34: a ninth name", LeverCurtain::known);
    }

    private static void hands() {
        for (int name : new int[] {-1, 2, 8, LOW, TOP}) {
            none("37: far(0, 0, " + name + ")", x -> x.far(0, 0, name));
            none("41: writtenFor(" + name + ", 0)", x -> x.writtenFor(name, 0));
            none("41: writtenFor(" + name + ", 1)", x -> x.writtenFor(name, 1));
        }
        none("37: far, not read", x -> x.far(2, 0, 0));
        none("38: goes, not read", x -> x.goes(2, 0));
        for (int paper : new int[] {-1, 30, 1, 0, LOW, TOP}) {
            none("39: agrees(" + paper + ")", x -> x.agrees(paper));
        }
        for (int what : new int[] {-1, 4, LOW, TOP}) {
            none("40: papers(" + what + ")", x -> x.papers(what));
        }
        for (int what : new int[] {-1, 2, LOW, TOP}) {
            none("41: writtenFor(0, " + what + ")", x -> x.writtenFor(0, what));
        }
    }

    private static void absents() {
        int[][] absents = {{-1, 1, 2}, {5, 1, 2}, {LOW, 1, 2}, {TOP, 1, 2}, {0, -1, 2}, {0, 1, 10000}, {0, 3, 2},
            {0, 10000, 10000}, {0, LOW, 2}, {0, 1, TOP}, {0, 0, -1}};
        for (int[] a : absents) {
            no("43: absent " + java.util.Arrays.toString(a), x -> x.absent(a[0], a[1], a[2]));
        }
    }

    private static void events() {
        int[][] events = {{-1, 60, 2, 0}, {3, 60, 2, 0}, {TOP, 60, 2, 0}, {0, -1, 2, 0}, {0, 49, 2, 0}, {0, 0, 3, 1},
            {0, 10000, 2, 0}, {0, LOW, 2, 0}, {0, TOP, 2, 0}, {0, 60, -1, 0}, {0, 60, 4, 0}, {0, 60, LOW, 0},
            {0, 60, 0, -1}, {0, 60, 0, 10000}, {0, 60, 1, -1}, {0, 60, 1, 10000}, {0, 60, 3, -1}, {0, 60, 3, 10},
            {0, 60, 3, TOP}};
        for (int[] e : events) {
            none("45: event " + java.util.Arrays.toString(e), x -> x.event(e[0], e[1], e[2], e[3]));
        }
        fullNone("45: a twenty-first event", x -> x.event(0, 9999, 2, 0));
        for (int machine : new int[] {-1, 3, LOW, TOP}) {
            none("46: badOnes(" + machine + ")", x -> x.badOnes(machine));
            none("47: exposed(" + machine + ")", x -> x.exposed(machine, 0, 9));
            none("48: placeAt(" + machine + ")", x -> x.placeAt(machine, 0));
            none("49: alone(" + machine + ")", x -> x.alone(machine, 0, 0, 9));
        }
        int[][] spans = {{-1, 5}, {0, 10000}, {6, 5}, {9999, 0}, {LOW, 5}, {5, LOW}, {5, TOP}, {10000, 10001}};
        for (int[] s : spans) {
            none("47: exposed from " + s[0] + " to " + s[1], x -> x.exposed(0, s[0], s[1]));
            none("49: alone from " + s[0] + " to " + s[1], x -> x.alone(0, 0, s[0], s[1]));
        }
        for (int time : new int[] {-1, 10000, LOW, TOP}) {
            none("48: placeAt(0, " + time + ")", x -> x.placeAt(0, time));
        }
        for (int place : new int[] {-1, 10, LOW, TOP}) {
            none("49: alone at " + place, x -> x.alone(0, place, 0, 9));
        }
    }

    private static void recounts() {
        int[][] recounts = {{-1, 0, 1}, {3, 0, 1}, {LOW, 0, 1}, {0, -1, 1}, {0, 5, 1}, {0, TOP, 1}, {0, 0, -1},
            {0, 0, 1000}, {0, 0, LOW}, {0, 0, TOP}};
        for (int[] r : recounts) {
            none("50: recount " + java.util.Arrays.toString(r), x -> x.recount(r[0], r[1], r[2]));
        }
        fullNone("50: a ninth recount", x -> x.recount(0, 0, 1));
        int[][] kept = {{-1, 0, 0}, {3, 0, 0}, {0, -1, 0}, {0, 5, 0}, {0, 0, -1}, {0, 0, 2}, {0, 1, 0}, {0, 0, LOW},
            {0, 0, TOP}};
        for (int[] k : kept) {
            none("51: kept " + java.util.Arrays.toString(k), x -> x.kept(k[0], k[1], k[2]));
        }
        int[][] changed = {{-1, 0}, {3, 0}, {0, -1}, {0, 5}, {LOW, 0}, {0, TOP}};
        for (int[] c : changed) {
            none("52: changed " + java.util.Arrays.toString(c), x -> x.changed(c[0], c[1]));
        }
        for (int machine : new int[] {-1, 3, LOW, TOP}) {
            none("53: differs(" + machine + ")", x -> x.differs(machine));
            none("54: take(" + machine + ")", x -> x.take(machine));
        }
    }

    private static void ask(String what, ToLongFunction<LeverCurtain> call) {
        still(what, Scene::some, call, null);
    }

    /** What only asks leaves all as it was, whatever it answers. */
    private static void asked() {
        ask("may", x -> x.may(3, 0) + x.may(3, 1));
        ask("proof", x -> x.proof(0) + x.proof(1) + x.rows() + x.need());
        ask("orders", x -> x.orders(7));
        ask("fault", LeverCurtain::fault);
        ask("voters, agree", x -> x.voters(0) + x.agree(0));
        ask("fitting", x -> x.fitting(0, -1) + x.fitting(0, 0) + x.fitting(1, 1));
        ask("sets", x -> x.sets(0, 0) + x.sets(0, 1) + x.sets(1, 2));
        ask("span", x -> x.span(0, 0, 0) + x.span(1, 3, 1));
        ask("total", x -> x.total(0, 0) + x.total(3, 1));
        ask("ahead", x -> x.ahead(0, 1) + x.ahead(3, 2) + x.joinedAhead(1, 0));
        ask("wins", x -> x.wins(0) + x.wins(1));
        ask("till", x -> x.till(0, 0) + x.till(2, 1));
        ask("sees", x -> x.sees(0, 0) + x.sees(1, 1) + x.cover(0));
        ask("name", x -> x.name(0, 3, 5, 1) + x.first(3, 9, 100));
        ask("far", x -> x.far(0, 0, 0) + x.goes(1, 0) + x.agrees(0));
        ask("papers", x -> x.papers(0) + x.papers(1) + x.papers(2) + x.papers(3));
        ask("writtenFor", x -> x.writtenFor(0, 0) + x.writtenFor(1, 1) + x.elected());
        ask("badOnes", x -> x.badOnes(0) + x.exposed(0, 0, 99) + x.placeAt(0, 99) + x.alone(0, 2, 0, 99));
        ask("kept", x -> x.kept(0, 0, 0) + x.changed(0, 0) + x.differs(0));
        ask("count", x -> x.count(0) + x.count(5) + x.count(8));
    }
}
