import java.math.BigInteger;
import java.nio.ByteBuffer;
import java.util.ArrayList;
import java.util.Arrays;
import java.util.BitSet;
import java.util.HashSet;
import java.util.List;
import java.util.Set;
import java.util.TreeSet;

/**
 * The document once more, as plainly as can be and in other ways than the program: PULLS are tried one by
 * one, counters turn wheel by wheel, time goes unit by unit. Slow; where trying all would take too long it
 * throws TooMuch.
 */
final class PlainCurtain {
    static final int NONE = -1;
    static final int HIDDEN = -100000;

    static final class TooMuch extends RuntimeException {
        private static final long serialVersionUID = 1L;
    }

    private record Group(int levers, int most) {
    }

    private record Fault(int kind, int a, int b) {
    }

    private record Event(int time, int kind, int v) {
    }

    private static final class Box {
        int[] books;
        int[] shown = new int[16];
        List<Fault> faults = new ArrayList<>();
        int opened = NONE;
        int cost = 1;
        List<Event> events = new ArrayList<>();
        List<List<Integer>> recounts = new ArrayList<>();
    }

    private final int n;
    private final List<Group> offices = new ArrayList<>();
    private final List<Group> straps = new ArrayList<>();
    private String tape = "";
    private final List<String> laws = new ArrayList<>();
    private int inUse = NONE;
    private final List<Box> boxes = new ArrayList<>();
    private final List<int[]> tests = new ArrayList<>();
    private final List<String> names = new ArrayList<>();
    private final String[][] readings = new String[30][4];
    private int limit = 1;
    private final int[][] absents = new int[16][2];

    PlainCurtain(int levers) {
        n = levers < 2 ? 2 : levers > 16 ? 16 : levers;
    }

    private boolean row(int row) {
        return row >= 0 && row < 1 << n;
    }

    private boolean lever(int lever) {
        return lever >= 0 && lever < n;
    }

    private boolean box(int machine) {
        return machine >= 0 && machine < boxes.size();
    }

    private static boolean in(int v, int least, int most) {
        return v >= least && v <= most;
    }

    /** The members of a set, lowest first. */
    private static List<Integer> members(int set) {
        List<Integer> members = new ArrayList<>();
        for (int i = 0; i < 31; i++) {
            if ((set >> i & 1) == 1) {
                members.add(i);
            }
        }
        return members;
    }

    /** Of all sets the one with the fewest members, then the one with the lower where two first differ. */
    private static int choose(List<Integer> sets) {
        int best = NONE;
        for (int set : sets) {
            if (best == NONE || comesBefore(members(set), members(best))) {
                best = set;
            }
        }
        return best;
    }

    private static boolean comesBefore(List<Integer> one, List<Integer> other) {
        if (one.size() != other.size()) {
            return one.size() < other.size();
        }
        for (int i = 0; i < one.size(); i++) {
            if (!one.get(i).equals(other.get(i))) {
                return one.get(i) < other.get(i);
            }
        }
        return false;
    }

    int office(int levers, int k) {
        if (!row(levers) || levers == 0 || offices.size() == 6 || k < 1 || k > members(levers).size()) {
            return NONE;
        }
        for (Group office : offices) {
            if ((office.levers & levers) != 0) {
                return NONE;
            }
        }
        offices.add(new Group(levers, k));
        return offices.size() - 1;
    }

    int strap(int levers, int most) {
        if (!row(levers) || levers == 0 || straps.size() == 10 || !in(most, 0, members(levers).size())) {
            return NONE;
        }
        straps.add(new Group(levers, most));
        return straps.size() - 1;
    }

    int unstrap() {
        if (straps.isEmpty()) {
            return NONE;
        }
        straps.remove(straps.size() - 1);
        return straps.size();
    }

    private static boolean holds(List<Group> groups, int row) {
        for (Group group : groups) {
            int in = 0;
            for (int lever : members(group.levers)) {
                in += row >> lever & 1;
            }
            if (in > group.most) {
                return false;
            }
        }
        return true;
    }

    int may(int row, int what) {
        if (!row(row) || !in(what, 0, 1)) {
            return NONE;
        }
        return holds(what == 0 ? straps : offices, row) ? 1 : 0;
    }

    int proof(int what) {
        if (!in(what, 0, 1)) {
            return NONE;
        }
        for (int row = 0; row < 1 << n; row++) {
            if (holds(what == 0 ? straps : offices, row) && !holds(what == 0 ? offices : straps, row)) {
                return row;
            }
        }
        return NONE;
    }

    private BitSet letBy(List<Group> groups) {
        BitSet let = new BitSet();
        for (int row = 0; row < 1 << n; row++) {
            let.set(row, holds(groups, row));
        }
        return let;
    }

    int rows() {
        return letBy(straps).cardinality();
    }

    int need() {
        if (n + straps.size() > 14) {
            throw new TooMuch();
        }
        BitSet all = letBy(straps);
        List<Integer> enough = new ArrayList<>();
        for (int set = 0; set < 1 << straps.size(); set++) {
            List<Group> some = new ArrayList<>();
            for (int strap : members(set)) {
                some.add(straps.get(strap));
            }
            if (letBy(some).equals(all)) {
                enough.add(set);
            }
        }
        return choose(enough);
    }

    int orders(int row) {
        if (!row(row) || members(row).size() > 10) {
            return NONE;
        }
        if (members(row).size() > 7) {
            throw new TooMuch();
        }
        return ordersFrom(0, row);
    }

    private int ordersFrom(int pulled, int row) {
        if (!holds(straps, pulled)) {
            return 0;
        }
        if (pulled == row) {
            return 1;
        }
        int orders = 0;
        for (int lever : members(row & ~pulled)) {
            orders += ordersFrom(pulled | 1 << lever, row);
        }
        return orders;
    }

    int feed(int a, int b, int c, int d, int e) {
        StringBuilder more = new StringBuilder(tape);
        for (int number : new int[] {a, b, c, d, e}) {
            for (byte part : ByteBuffer.allocate(4).putInt(number).array()) {
                more.append((char) (part & 255));
            }
        }
        String fed = more.toString().replace("\0", "");
        if (fed.length() > 120) {
            return NONE;
        }
        tape = fed;
        return tape.length();
    }

    boolean end(int n) {
        if (n < 0 || n > tape.length()) {
            return false;
        }
        tape = tape.substring(0, n);
        return true;
    }

    int fault() {
        return PlainLaw.fault(tape);
    }

    int law() {
        if (fault() != NONE || laws.size() == 4) {
            return NONE;
        }
        laws.add(tape);
        tape = "";
        return laws.size() - 1;
    }

    boolean use(int law) {
        if (law != NONE && !in(law, 0, laws.size() - 1)) {
            return false;
        }
        inUse = law;
        return true;
    }

    int machine(int s, int x, int f, int w, int p) {
        for (int book : new int[] {s, x, f, w, p}) {
            if (!in(book, 0, 999)) {
                return NONE;
            }
        }
        if (boxes.size() == 6) {
            return NONE;
        }
        Box box = new Box();
        box.books = new int[] {s, x, f, w, p};
        for (int lever = 0; lever < n; lever++) {
            box.recounts.add(new ArrayList<>());
        }
        boxes.add(box);
        return boxes.size() - 1;
    }

    private static int votersBy(String law, int[] books) {
        return (int) Math.max(0, Math.min(999, PlainLaw.worth(law, books)));
    }

    private int votersOf(Box box) {
        return inUse == NONE ? box.books[0] : votersBy(laws.get(inUse), box.books);
    }

    int voters(int machine) {
        return box(machine) ? votersOf(boxes.get(machine)) : NONE;
    }

    int agree(int machine) {
        if (!box(machine)) {
            return NONE;
        }
        int agree = 0;
        for (int law = 0; law < laws.size(); law++) {
            if (votersBy(laws.get(law), boxes.get(machine).books) == boxes.get(machine).books[4]) {
                agree += 1 << law;
            }
        }
        return agree;
    }

    boolean show(int machine, int lever, int number) {
        if (!box(machine) || !lever(lever) || !in(number, 0, 999)) {
            return false;
        }
        boxes.get(machine).shown[lever] = number;
        return true;
    }

    int trouble(int machine, int kind, int a, int b) {
        if (!box(machine) || boxes.get(machine).faults.size() == 8) {
            return NONE;
        }
        boolean fine = switch (kind) {
            case 0 -> lever(a) && (b == 0 || b == 1);
            case 1 -> lever(a) && lever(b) && a != b;
            case 2 -> lever(a);
            case 3 -> lever(a) && in(b, 1, 999);
            case 4 -> in(a, 0, offices.size() - 1);
            default -> false;
        };
        if (!fine) {
            return NONE;
        }
        boxes.get(machine).faults.add(new Fault(kind, a, b));
        return boxes.get(machine).faults.size() - 1;
    }

    /** What can be by one set of FAULTS: the least and greatest PULLS, the least leads. */
    private static final class World {
        boolean fits = true;
        int[] least = new int[16];
        int[] most = new int[16];
        int[][] lead = new int[16][16];
    }

    private static List<Fault> some(Box box, int set) {
        List<Fault> some = new ArrayList<>();
        for (int fault : members(set)) {
            some.add(box.faults.get(fault));
        }
        return some;
    }

    private static int shownBy(List<Fault> faults, int counter, int pulls) {
        int began = 0;
        boolean dead = false;
        int wheel = 1000;
        for (Fault fault : faults) {
            if (fault.a == counter) {
                switch (fault.kind) {
                    case 0 -> wheel = Math.min(wheel, fault.b == 0 ? 10 : 100);
                    case 2 -> dead = true;
                    case 3 -> began = fault.b;
                    default -> { }
                }
            }
        }
        return (began + (dead ? 0 : pulls)) % 1000 % wheel;
    }

    private World world(Box box, int set) {
        List<Fault> faults = some(box, set);
        int[] counterOf = countersBy(faults);
        World world = new World();
        Arrays.fill(world.least, 1_000_000);
        Arrays.fill(world.most, -1);
        for (int[] row : world.lead) {
            Arrays.fill(row, 1_000_000);
        }
        int voters = votersOf(box);
        for (int office = 0; office < offices.size(); office++) {
            boolean off = false;
            for (Fault fault : faults) {
                off |= fault.kind == 4 && fault.a == office;
            }
            List<Integer> own = members(offices.get(office).levers);
            List<List<Integer>> can = new ArrayList<>();
            long tries = 1;
            for (int lever : own) {
                List<Integer> values = new ArrayList<>();
                for (int pulls = 0; pulls <= voters; pulls++) {
                    if (shownBy(faults, counterOf[lever], pulls) == box.shown[counterOf[lever]]) {
                        values.add(pulls);
                    }
                }
                can.add(values);
                tries *= values.size();
            }
            if (tries > 3000) {
                throw new TooMuch();
            }
            int bound = off ? 1_000_000 : offices.get(office).most * voters;
            if (!tryAll(world, own, can, new int[own.size()], 0, bound)) {
                world.fits = false;
            }
        }
        return world;
    }

    private static boolean tryAll(World world, List<Integer> own, List<List<Integer>> can, int[] row, int at, int left) {
        if (left < 0) {
            return false;
        }
        if (at == row.length) {
            for (int i = 0; i < row.length; i++) {
                int lever = own.get(i);
                world.least[lever] = Math.min(world.least[lever], row[i]);
                world.most[lever] = Math.max(world.most[lever], row[i]);
                for (int j = 0; j < row.length; j++) {
                    int[] leads = world.lead[lever];
                    leads[own.get(j)] = Math.min(leads[own.get(j)], row[i] - row[j]);
                }
            }
            return true;
        }
        boolean some = false;
        for (int pulls : can.get(at)) {
            row[at] = pulls;
            some |= tryAll(world, own, can, row, at + 1, left - pulls);
        }
        return some;
    }

    /** What a MACHINE with a set of its FAULTS SHOWS, if so much was pulled of each LEVER. */
    int[] shownAfter(int machine, int set, int[] pulls) {
        List<Fault> faults = some(boxes.get(machine), set);
        int[] counterOf = countersBy(faults);
        int[] shown = new int[16];
        for (int lever = 0; lever < n; lever++) {
            shown[counterOf[lever]] = shownBy(faults, counterOf[lever], pulls[lever]);
        }
        return shown;
    }

    private static int[] countersBy(List<Fault> faults) {
        int[] counterOf = new int[16];
        for (int lever = 0; lever < 16; lever++) {
            counterOf[lever] = lever;
        }
        for (Fault fault : faults) {
            if (fault.kind == 1) {
                int own = counterOf[fault.a];
                counterOf[fault.a] = counterOf[fault.b];
                counterOf[fault.b] = own;
            }
        }
        return counterOf;
    }

    int faultsOf(int machine) {
        return boxes.get(machine).faults.size();
    }

    private List<Integer> fits(Box box) {
        List<Integer> fits = new ArrayList<>();
        for (int set = 0; set < 1 << box.faults.size(); set++) {
            if (world(box, set).fits) {
                fits.add(set);
            }
        }
        return fits;
    }

    private List<World> counting(Box box, int opened) {
        List<World> worlds = new ArrayList<>();
        for (int set : fits(box)) {
            if (opened == NONE || opened == set) {
                worlds.add(world(box, set));
            }
        }
        return worlds;
    }

    int fitting(int machine, int i) {
        if (!box(machine)) {
            return NONE;
        }
        List<Integer> fits = fits(boxes.get(machine));
        if (i == NONE) {
            return fits.size();
        }
        return in(i, 0, fits.size() - 1) ? fits.get(i) : NONE;
    }

    int sets(int machine, int what) {
        if (!box(machine) || !in(what, 0, 2)) {
            return NONE;
        }
        List<Integer> fits = fits(boxes.get(machine));
        if (fits.isEmpty()) {
            return NONE;
        }
        if (what == 0) {
            return choose(fits);
        }
        TreeSet<Integer> kept = new TreeSet<>(members(what == 1 ? 255 : 0));
        for (int set : fits) {
            if (what == 1) {
                kept.retainAll(members(set));
            } else {
                kept.addAll(members(set));
            }
        }
        int bits = 0;
        for (int fault : kept) {
            bits += 1 << fault;
        }
        return bits;
    }

    int officeOf(int lever) {
        for (int office = 0; office < offices.size(); office++) {
            if (members(offices.get(office).levers).contains(lever)) {
                return office;
            }
        }
        return NONE;
    }

    int span(int machine, int lever, int what) {
        if (!box(machine) || officeOf(lever) == NONE || !in(what, 0, 1)) {
            return NONE;
        }
        Box box = boxes.get(machine);
        int found = NONE;
        for (World world : counting(box, box.opened)) {
            int here = what == 0 ? world.least[lever] : world.most[lever];
            found = found == NONE ? here : what == 0 ? Math.min(found, here) : Math.max(found, here);
        }
        return found;
    }

    boolean open(int machine, int set) {
        if (!box(machine)) {
            return false;
        }
        Box box = boxes.get(machine);
        if (set != NONE && (!in(set, 0, (1 << box.faults.size()) - 1) || !world(box, set).fits)) {
            return false;
        }
        box.opened = set;
        return true;
    }

    int total(int lever, int what) {
        if (officeOf(lever) == NONE || !in(what, 0, 1)) {
            return NONE;
        }
        int sum = 0;
        for (int machine = 0; machine < boxes.size(); machine++) {
            int here = span(machine, lever, what);
            if (here == NONE) {
                return NONE;
            }
            sum += here;
        }
        return sum;
    }

    private int ahead(int a, int b, int[] opened) {
        if (officeOf(a) == NONE || officeOf(a) != officeOf(b) || a == b) {
            return HIDDEN;
        }
        int sum = 0;
        boolean all = true;
        for (int machine = 0; machine < boxes.size(); machine++) {
            int least = 1_000_000;
            for (World world : counting(boxes.get(machine), opened[machine])) {
                least = Math.min(least, world.lead[a][b]);
            }
            all &= least < 1_000_000;
            sum += least;
        }
        return all ? sum : HIDDEN;
    }

    private int[] openedNow() {
        int[] opened = new int[boxes.size()];
        for (int machine = 0; machine < opened.length; machine++) {
            opened[machine] = boxes.get(machine).opened;
        }
        return opened;
    }

    int ahead(int a, int b) {
        return ahead(a, b, openedNow());
    }

    private boolean allFit() {
        for (Box box : boxes) {
            if (counting(box, box.opened).isEmpty()) {
                return false;
            }
        }
        return true;
    }

    private boolean wins(int lever, int[] opened) {
        for (int other : members(offices.get(officeOf(lever)).levers)) {
            if (other != lever && ahead(lever, other, opened) < 1) {
                return false;
            }
        }
        return true;
    }

    int wins(int office) {
        if (!in(office, 0, offices.size() - 1) || !allFit()) {
            return NONE;
        }
        for (int lever : members(offices.get(office).levers)) {
            if (wins(lever, openedNow())) {
                return lever;
            }
        }
        return NONE;
    }

    boolean cost(int machine, int cost) {
        if (!box(machine) || !in(cost, 1, 50)) {
            return false;
        }
        boxes.get(machine).cost = cost;
        return true;
    }

    int till(int lever, int what) {
        if (officeOf(lever) == NONE || !in(what, 0, 1) || !allFit()) {
            return NONE;
        }
        int least = 1_000_000;
        List<Integer> best = new ArrayList<>();
        for (int set = 0; set < 1 << boxes.size(); set++) {
            int[] opened = openedNow();
            int sum = 0;
            boolean fine = true;
            for (int machine : members(set)) {
                fine &= opened[machine] == NONE;
                opened[machine] = sets(machine, 0);
                sum += boxes.get(machine).cost;
            }
            if (fine && sum <= least && wins(lever, opened)) {
                if (sum < least) {
                    best.clear();
                }
                least = sum;
                best.add(set);
            }
        }
        if (best.isEmpty()) {
            return NONE;
        }
        return what == 0 ? choose(best) : least;
    }

    int test(int row, int times) {
        if (!row(row) || !in(times, 0, 200) || tests.size() == 8) {
            return NONE;
        }
        tests.add(new int[] {row, times});
        return tests.size() - 1;
    }

    /** Pulls one by one; the wheels of each counter turn. What each counter SHOWS then. */
    private int[] pulled(int[] test, Fault fault) {
        List<Group> straps = new ArrayList<>(this.straps);
        if (fault != null && fault.kind == 4) {
            straps.removeIf(strap -> members(offices.get(fault.a).levers).containsAll(members(strap.levers)));
        }
        int[][] wheels = new int[n][3];
        if (fault != null && fault.kind == 3) {
            wheels[fault.a] = new int[] {fault.b % 10, fault.b / 10 % 10, fault.b / 100};
        }
        for (int time = 0; time < test[1] && holds(straps, test[0]); time++) {
            for (int lever : members(test[0])) {
                int counter = lever;
                if (fault != null && fault.kind == 1) {
                    counter = lever == fault.a ? fault.b : lever == fault.b ? fault.a : lever;
                }
                boolean mine = fault != null && fault.a == counter;
                if (mine && fault.kind == 2) {
                    continue;
                }
                for (int wheel = 0; wheel < 3; wheel++) {
                    wheels[counter][wheel]++;
                    if (wheels[counter][wheel] < 10) {
                        break;
                    }
                    wheels[counter][wheel] = 0;
                    if (mine && fault.kind == 0 && fault.b == wheel) {
                        break;
                    }
                }
            }
        }
        int[] shown = new int[n];
        for (int counter = 0; counter < n; counter++) {
            shown[counter] = wheels[counter][0] + 10 * wheels[counter][1] + 100 * wheels[counter][2];
        }
        return shown;
    }

    int sees(int test, int machine) {
        if (!in(test, 0, tests.size() - 1) || !box(machine)) {
            return NONE;
        }
        int seen = 0;
        int[] right = pulled(tests.get(test), null);
        List<Fault> faults = boxes.get(machine).faults;
        for (int fault = 0; fault < faults.size(); fault++) {
            int[] shown = pulled(tests.get(test), faults.get(fault));
            for (int lever = 0; lever < n; lever++) {
                if (officeOf(lever) != NONE && shown[lever] != right[lever]) {
                    seen |= 1 << fault;
                }
            }
        }
        return seen;
    }

    int cover(int machine) {
        if (!box(machine)) {
            return NONE;
        }
        int all = 0;
        for (int test = 0; test < tests.size(); test++) {
            all |= sees(test, machine);
        }
        List<Integer> enough = new ArrayList<>();
        int[] sees = new int[tests.size()];
        for (int test = 0; test < tests.size(); test++) {
            sees[test] = sees(test, machine);
        }
        for (int set = 0; set < 1 << tests.size(); set++) {
            int seen = 0;
            for (int test : members(set)) {
                seen |= sees[test];
            }
            if (seen == all) {
                enough.add(set);
            }
        }
        return choose(enough);
    }

    private List<Integer> order(int office, long seed, int machine) {
        List<Integer> order = new ArrayList<>(members(offices.get(office).levers));
        BigInteger round = BigInteger.ONE.shiftLeft(64);
        BigInteger x = BigInteger.valueOf(seed).mod(round);
        for (int place = order.size() - 1; place >= 1; place--) {
            x = x.multiply(new BigInteger("6364136223846793005")).add(new BigInteger("1442695040888963407")).mod(round);
            int other = x.shiftRight(33).mod(BigInteger.valueOf(place + 1)).intValue();
            java.util.Collections.swap(order, place, other);
        }
        for (int i = 0; i < machine; i++) {
            order.add(0, order.remove(order.size() - 1));
        }
        return order;
    }

    int name(int office, long seed, int machine, int place) {
        if (!in(office, 0, offices.size() - 1) || !in(machine, 0, 5)) {
            return NONE;
        }
        List<Integer> order = order(office, seed, machine);
        return in(place, 0, order.size() - 1) ? order.get(place) : NONE;
    }

    int first(int lever, long seed, int machines) {
        if (officeOf(lever) == NONE || !in(machines, 1, 100)) {
            return NONE;
        }
        int times = 0;
        for (int machine = 0; machine < machines; machine++) {
            times += order(officeOf(lever), seed, machine).get(0) == lever ? 1 : 0;
        }
        return times;
    }

    int known() {
        if (names.size() == 8 || !tape.matches("[a-z]{1,8}") || names.contains(tape)) {
            return NONE;
        }
        names.add(tape);
        tape = "";
        return names.size() - 1;
    }

    boolean read(int hand, int paper) {
        if (!in(hand, 0, 3) || !in(paper, 0, 29) || !tape.matches("[a-z.]{1,8}")) {
            return false;
        }
        readings[paper][hand] = tape;
        tape = "";
        return true;
    }

    boolean limit(int v) {
        if (!in(v, 0, 8)) {
            return false;
        }
        limit = v;
        return true;
    }

    private String reading(int hand, int paper) {
        return in(hand, 0, 3) && in(paper, 0, 29) ? readings[paper][hand] : null;
    }

    private static int distance(String a, String b, int[][] known) {
        if (a.isEmpty() || b.isEmpty()) {
            return a.length() + b.length();
        }
        if (known[a.length()][b.length()] == 0) {
            boolean like = a.charAt(0) == '.' || a.charAt(0) == b.charAt(0);
            int change = distance(a.substring(1), b.substring(1), known) + (like ? 0 : 1);
            int put = distance(a, b.substring(1), known) + 1;
            int take = distance(a.substring(1), b, known) + 1;
            known[a.length()][b.length()] = 1 + Math.min(change, Math.min(put, take));
        }
        return known[a.length()][b.length()] - 1;
    }

    int far(int hand, int paper, int name) {
        String reading = reading(hand, paper);
        if (reading == null || !in(name, 0, names.size() - 1)) {
            return NONE;
        }
        return distance(reading, names.get(name), new int[9][9]);
    }

    int goes(int hand, int paper) {
        if (reading(hand, paper) == null) {
            return NONE;
        }
        int least = 99;
        for (int name = 0; name < names.size(); name++) {
            least = Math.min(least, far(hand, paper, name));
        }
        int near = 0;
        for (int name = 0; name < names.size(); name++) {
            if (least <= limit && far(hand, paper, name) == least) {
                near += 1 << name;
            }
        }
        return near;
    }

    private List<List<Integer>> allGo(int paper) {
        List<List<Integer>> all = new ArrayList<>();
        for (int hand = 0; hand < 4; hand++) {
            if (reading(hand, paper) != null) {
                all.add(members(goes(hand, paper)));
            }
        }
        return all;
    }

    int agrees(int paper) {
        List<List<Integer>> all = allGo(paper);
        for (int name = 0; name < names.size() && !all.isEmpty(); name++) {
            List<Integer> only = List.of(name);
            if (all.stream().allMatch(only::equals)) {
                return name;
            }
        }
        return NONE;
    }

    int papers(int what) {
        if (!in(what, 0, 3)) {
            return NONE;
        }
        int[] many = new int[4];
        for (int paper = 0; paper < 30; paper++) {
            Set<String> unlike = new HashSet<>(Arrays.asList(readings[paper]));
            unlike.remove(null);
            if (!unlike.isEmpty()) {
                many[0]++;
                many[agrees(paper) == NONE ? 2 : 1]++;
                many[3] += unlike.size() > 1 ? 1 : 0;
            }
        }
        return many[what];
    }

    int writtenFor(int name, int what) {
        if (!in(name, 0, names.size() - 1) || !in(what, 0, 1)) {
            return NONE;
        }
        int many = 0;
        for (int paper = 0; paper < 30; paper++) {
            boolean some = false;
            for (List<Integer> near : allGo(paper)) {
                some |= near.contains(name);
            }
            many += what == 0 ? agrees(paper) == name ? 1 : 0 : some ? 1 : 0;
        }
        return many;
    }

    int elected() {
        for (int name = 0; name < names.size(); name++) {
            boolean above = true;
            for (int other = 0; other < names.size(); other++) {
                above &= other == name || writtenFor(name, 0) > writtenFor(other, 1);
            }
            if (above) {
                return name;
            }
        }
        return NONE;
    }

    boolean absent(int lever, int least, int most) {
        if (!lever(lever) || least < 0 || most > 9999 || most < least) {
            return false;
        }
        absents[lever] = new int[] {least, most};
        return true;
    }

    int joinedAhead(int a, int b) {
        int ahead = ahead(a, b);
        return ahead == HIDDEN ? HIDDEN : ahead + absents[a][0] - absents[b][1];
    }

    int event(int machine, int time, int kind, int v) {
        if (!box(machine) || !in(time, 0, 9999)) {
            return NONE;
        }
        List<Event> events = boxes.get(machine).events;
        boolean fine = switch (kind) {
            case 0, 1 -> in(v, 0, 9999);
            case 2 -> true;
            case 3 -> in(v, 0, 9);
            default -> false;
        };
        if (!fine || events.size() == 20 || !events.isEmpty() && events.get(events.size() - 1).time > time) {
            return NONE;
        }
        events.add(new Event(time, kind, v));
        return events.size();
    }

    private static final class Story {
        int bad;
        boolean[] open = new boolean[10000];
        int[] places = new int[10001];
    }

    /** Unit by unit of time: whether it was open then, and where. */
    private static Story story(Box box) {
        Story story = new Story();
        Arrays.fill(story.open, true);
        Integer seal = null;
        int before = 0;
        for (int i = 0; i < box.events.size(); i++) {
            Event event = box.events.get(i);
            switch (event.kind) {
                case 0 -> {
                    story.bad |= seal != null ? 1 << i : 0;
                    seal = event.v;
                    Arrays.fill(story.open, event.time, 10000, false);
                }
                case 1 -> {
                    if (seal == null || seal != event.v) {
                        story.bad |= 1 << i;
                        if (seal != null) {
                            Arrays.fill(story.open, before, 10000, true);
                        }
                        seal = null;
                    }
                }
                case 2 -> {
                    seal = null;
                    Arrays.fill(story.open, event.time, 10000, true);
                }
                default -> Arrays.fill(story.places, event.time, 10001, event.v);
            }
            before = event.time;
        }
        return story;
    }

    int badOnes(int machine) {
        return box(machine) ? story(boxes.get(machine)).bad : NONE;
    }

    int exposed(int machine, int from, int to) {
        if (!box(machine) || from < 0 || to > 9999 || from >= to) {
            return NONE;
        }
        Story story = story(boxes.get(machine));
        int sum = 0;
        for (int time = from; time < to; time++) {
            sum += story.open[time] ? 1 : 0;
        }
        return sum;
    }

    int placeAt(int machine, int time) {
        return box(machine) && in(time, 0, 9999) ? story(boxes.get(machine)).places[time] : NONE;
    }

    int alone(int machine, int place, int from, int to) {
        if (!box(machine) || from < 0 || to > 9999 || from >= to || !in(place, 0, 9)) {
            return NONE;
        }
        Story story = story(boxes.get(machine));
        int sum = 0;
        for (int time = from; time < to; time++) {
            sum += story.open[time] && story.places[time] != place ? 1 : 0;
        }
        return sum;
    }

    int recount(int machine, int lever, int number) {
        if (!box(machine) || !lever(lever) || !in(number, 0, 999)) {
            return NONE;
        }
        List<Integer> recounts = boxes.get(machine).recounts.get(lever);
        if (recounts.size() == 8) {
            return NONE;
        }
        recounts.add(number);
        return recounts.size();
    }

    int kept(int machine, int lever, int i) {
        if (!box(machine) || !lever(lever)) {
            return NONE;
        }
        List<Integer> recounts = boxes.get(machine).recounts.get(lever);
        return in(i, 0, recounts.size() - 1) ? recounts.get(i) : NONE;
    }

    int changed(int machine, int lever) {
        if (!box(machine) || !lever(lever)) {
            return NONE;
        }
        List<Integer> row = new ArrayList<>(boxes.get(machine).recounts.get(lever));
        row.add(0, boxes.get(machine).shown[lever]);
        int changed = 0;
        for (int i = 1; i < row.size(); i++) {
            changed += row.get(i).equals(row.get(i - 1)) ? 0 : 1;
        }
        return changed;
    }

    int differs(int machine) {
        if (!box(machine)) {
            return NONE;
        }
        int bits = 0;
        for (int lever = 0; lever < n; lever++) {
            List<Integer> recounts = boxes.get(machine).recounts.get(lever);
            if (!recounts.isEmpty() && recounts.get(recounts.size() - 1) != boxes.get(machine).shown[lever]) {
                bits += 1 << lever;
            }
        }
        return bits;
    }

    int take(int machine) {
        if (!box(machine)) {
            return NONE;
        }
        int unlike = differs(machine);
        for (int lever : members(unlike)) {
            List<Integer> recounts = boxes.get(machine).recounts.get(lever);
            boxes.get(machine).shown[lever] = recounts.get(recounts.size() - 1);
        }
        return members(unlike).size();
    }

    int count(int what) {
        return switch (what) {
            case 0 -> offices.size();
            case 1 -> straps.size();
            case 2 -> laws.size();
            case 3 -> boxes.size();
            case 4 -> tests.size();
            case 5 -> tape.length();
            case 6 -> inUse;
            case 7 -> n;
            case 8 -> names.size();
            default -> HIDDEN;
        };
    }
}
