/**
 * Levers behind a curtain: what straps let be pulled, what counters with faults can hide, and who is
 * sure to have won all the same. README.md tells how to use it; the promises stand in DOC.md.
 *
 * All rows are made in the constructors and used again: no call makes an object.
 */
public final class LeverCurtain {
    public static final int NONE = -1;
    public static final int HIDDEN = -100000;

    private final Booth booth;
    private final Tape tape;
    private final Laws laws;
    private final Machines machines;
    private final Fit fit;
    private final Tally tally;
    private final Trials trials;
    private final Papers ballots;
    private final Seals seals;

    public LeverCurtain(int levers) {
        booth = new Booth(levers);
        tape = new Tape();
        laws = new Laws();
        machines = new Machines(booth);
        fit = new Fit(booth, machines);
        tally = new Tally(booth, machines, fit);
        trials = new Trials(booth, machines);
        ballots = new Papers();
        seals = new Seals();
    }

    public int office(int levers, int k) {
        return booth.addOffice(levers, k);
    }

    public int strap(int levers, int most) {
        return booth.addStrap(levers, most);
    }

    public int unstrap() {
        return booth.dropStrap();
    }

    public int may(int row, int what) {
        if (!booth.isRow(row) || !Cells.within(what, 0, 1)) {
            return NONE;
        }
        boolean fine = what == 0 ? booth.isLet(row) : booth.isLawful(row);
        return fine ? 1 : 0;
    }

    public int proof(int what) {
        if (!Cells.within(what, 0, 1)) {
            return NONE;
        }
        return what == 0 ? booth.beatingRow() : booth.barredRow();
    }

    public int rows() {
        return booth.letRows();
    }

    public int need() {
        return booth.neededStraps();
    }

    public int orders(int row) {
        return booth.waysToPull(row);
    }

    public int feed(int a, int b, int c, int d, int e) {
        int more = Tape.bytesIn(a) + Tape.bytesIn(b) + Tape.bytesIn(c) + Tape.bytesIn(d) + Tape.bytesIn(e);
        if (tape.length + more > Tape.MOST) {
            return NONE;
        }
        tape.append(a);
        tape.append(b);
        tape.append(c);
        tape.append(d);
        tape.append(e);
        return tape.length;
    }

    public boolean end(int n) {
        if (!Cells.within(n, 0, tape.length)) {
            return false;
        }
        tape.length = n;
        return true;
    }

    public int fault() {
        return laws.faultIn(tape);
    }

    public int law() {
        return laws.add(tape);
    }

    public boolean use(int law) {
        if (law != NONE && !laws.isLaw(law)) {
            return false;
        }
        laws.inUse = law;
        for (int machine = 0; machine < machines.number; machine++) {
            settleVoters(machine);
        }
        return true;
    }

    public int machine(int s, int x, int f, int w, int p) {
        int machine = machines.add(s, x, f, w, p);
        settleVoters(machine);
        return machine;
    }

    /** Books never change, so that VOTERS are worked out only when a LAW comes into USE or a MACHINE comes. */
    private void settleVoters(int machine) {
        if (machines.isMachine(machine)) {
            int books = machine * Machines.BOOKS;
            Cells.put(machines.voters, machine, laws.votersBy(laws.inUse, machines.books, books));
        }
    }

    public int voters(int machine) {
        return machines.isMachine(machine) ? Cells.at(machines.voters, machine) : NONE;
    }

    public int agree(int machine) {
        if (!machines.isMachine(machine)) {
            return NONE;
        }
        return laws.agreeing(machines.books, machine * Machines.BOOKS);
    }

    public boolean show(int machine, int lever, int number) {
        return machines.setShown(machine, lever, number);
    }

    public int trouble(int machine, int kind, int a, int b) {
        return machines.addFault(machine, kind, a, b);
    }

    public int fitting(int machine, int i) {
        if (!machines.isMachine(machine)) {
            return NONE;
        }
        return i == NONE ? fit.howMany(machine) : fit.numbered(machine, i);
    }

    public int sets(int machine, int what) {
        if (!machines.isMachine(machine) || !Cells.within(what, 0, 2)) {
            return NONE;
        }
        if (what == 0) {
            return fit.fewest(machine);
        }
        return what == 1 ? fit.inAll(machine) : fit.inSome(machine);
    }

    public int span(int machine, int lever, int what) {
        if (!machines.isMachine(machine) || booth.officeOf(lever) == NONE || !Cells.within(what, 0, 1)) {
            return NONE;
        }
        return tally.pullsAt(machine, lever, what);
    }

    public boolean open(int machine, int set) {
        if (!machines.isMachine(machine) || set != NONE && !fit.lay(machine, set)) {
            return false;
        }
        Cells.put(machines.opened, machine, set);
        return true;
    }

    public int total(int lever, int what) {
        if (booth.officeOf(lever) == NONE || !Cells.within(what, 0, 1)) {
            return NONE;
        }
        return tally.pullsOverAll(lever, what);
    }

    public int ahead(int a, int b) {
        return tally.leastLead(a, b);
    }

    public int wins(int office) {
        return booth.isOffice(office) ? tally.winner(office) : NONE;
    }

    public boolean cost(int machine, int cost) {
        if (!machines.isMachine(machine) || !Cells.within(cost, 1, 50)) {
            return false;
        }
        Cells.put(machines.costs, machine, cost);
        return true;
    }

    public int till(int lever, int what) {
        if (booth.officeOf(lever) == NONE || !Cells.within(what, 0, 1)) {
            return NONE;
        }
        int chosen = tally.cheapestOpening(lever);
        return chosen == NONE || what == 0 ? chosen : tally.costOf(chosen);
    }

    public int test(int row, int times) {
        return trials.add(row, times);
    }

    public int sees(int test, int machine) {
        if (!trials.isTest(test) || !machines.isMachine(machine)) {
            return NONE;
        }
        return trials.seenBy(test, machine);
    }

    public int cover(int machine) {
        return machines.isMachine(machine) ? trials.fewestSeeingAll(machine) : NONE;
    }

    public int name(int office, long seed, int machine, int place) {
        if (!booth.isOffice(office) || !Cells.within(machine, 0, Machines.MOST - 1)) {
            return NONE;
        }
        int names = booth.shuffle(office, seed);
        return Cells.within(place, 0, names - 1) ? booth.shuffledAt(place - machine, names) : NONE;
    }

    public int first(int lever, long seed, int machines) {
        int office = booth.officeOf(lever);
        if (office == NONE || !Cells.within(machines, 1, 100)) {
            return NONE;
        }
        int names = booth.shuffle(office, seed);
        int times = 0;
        for (int machine = 0; machine < machines; machine++) {
            if (booth.shuffledAt(-machine, names) == lever) {
                times++;
            }
        }
        return times;
    }

    public int known() {
        return ballots.addName(tape);
    }

    public boolean read(int hand, int paper) {
        return ballots.setReading(hand, paper, tape);
    }

    public boolean limit(int v) {
        if (!Cells.within(v, 0, Papers.LETTERS)) {
            return false;
        }
        ballots.limit = v;
        return true;
    }

    public int far(int hand, int paper, int name) {
        if (!ballots.isRead(hand, paper) || !ballots.isName(name)) {
            return NONE;
        }
        return ballots.farFrom(hand, paper, name);
    }

    public int goes(int hand, int paper) {
        return ballots.isRead(hand, paper) ? ballots.nearest(hand, paper) : NONE;
    }

    public int agrees(int paper) {
        return ballots.agreedName(paper);
    }

    public int papers(int what) {
        return Cells.within(what, 0, 3) ? ballots.howMany(what) : NONE;
    }

    public int writtenFor(int name, int what) {
        if (!ballots.isName(name) || !Cells.within(what, 0, 1)) {
            return NONE;
        }
        return what == 0 ? ballots.sureFor(name) : ballots.mostFor(name);
    }

    public int elected() {
        return ballots.sureWinner();
    }

    public boolean absent(int lever, int least, int most) {
        return tally.setAbsent(lever, least, most);
    }

    public int joinedAhead(int a, int b) {
        int lead = tally.leastLead(a, b);
        return lead == HIDDEN ? HIDDEN : lead + tally.leastAbsent(a) - tally.mostAbsent(b);
    }

    public int event(int machine, int time, int kind, int v) {
        return machines.isMachine(machine) ? seals.add(machine, time, kind, v) : NONE;
    }

    public int badOnes(int machine) {
        return machines.isMachine(machine) ? seals.badEvents(machine) : NONE;
    }

    public int exposed(int machine, int from, int to) {
        if (!machines.isMachine(machine) || !Seals.isSpan(from, to)) {
            return NONE;
        }
        return seals.openTime(machine, NONE, from, to);
    }

    public int placeAt(int machine, int time) {
        if (!machines.isMachine(machine) || !Seals.isTime(time)) {
            return NONE;
        }
        return seals.placeThen(machine, time);
    }

    public int alone(int machine, int place, int from, int to) {
        if (!machines.isMachine(machine) || !Seals.isSpan(from, to) || !Seals.isPlace(place)) {
            return NONE;
        }
        return seals.openTime(machine, place, from, to);
    }

    public int recount(int machine, int lever, int number) {
        return machines.addRecount(machine, lever, number);
    }

    public int kept(int machine, int lever, int i) {
        return machines.keptRecount(machine, lever, i);
    }

    public int changed(int machine, int lever) {
        return machines.changes(machine, lever);
    }

    public int differs(int machine) {
        return machines.isMachine(machine) ? machines.unlikeShown(machine) : NONE;
    }

    public int take(int machine) {
        return machines.isMachine(machine) ? machines.takeRecounts(machine) : NONE;
    }

    public int count(int what) {
        switch (what) {
            case 0: return booth.offices;
            case 1: return booth.straps;
            case 2: return laws.number;
            case 3: return machines.number;
            case 4: return trials.number;
            case 5: return tape.length;
            case 6: return laws.inUse;
            case 7: return booth.levers;
            case 8: return ballots.names;
            default: return HIDDEN;
        }
    }

    /** Rows and sets of bits: what is outside their bounds reads as 0 and is not written, so that no index errs. */
    private static final class Cells {
        static int at(int[] row, int i) {
            return row != null && i >= 0 && i < row.length ? row[i] : 0;
        }

        static void put(int[] row, int i, int value) {
            if (row != null && i >= 0 && i < row.length) {
                row[i] = value;
            }
        }

        static void swap(int[] row, int i, int j) {
            if (row != null && i >= 0 && i < row.length && j >= 0 && j < row.length) {
                int kept = row[i];
                row[i] = row[j];
                row[j] = kept;
            }
        }

        static boolean within(int value, int least, int most) {
            return value >= least && value <= most;
        }

        static int nearest(int value, int least, int most) {
            return Math.max(least, Math.min(most, value));
        }

        static int modulo(int value, int by) {
            return by > 0 ? Math.floorMod(value, by) : 0;
        }

        static int bit(int i) {
            return i >= 0 && i <= 30 ? 1 << i : 0;
        }

        /** The set of the first so many. */
        static int all(int many) {
            return bit(many) - 1;
        }

        static boolean has(int set, int i) {
            return i >= 0 && i <= 30 && (set >> i & 1) != 0;
        }

        /** The order of all choices of the fewest: fewer members, then the lower member where two first differ. */
        static boolean better(int set, int than) {
            int unlike = set ^ than;
            int lowest = unlike & -unlike;
            int fewer = Integer.bitCount(than) - Integer.bitCount(set);
            return fewer > 0 || fewer == 0 && (set & lowest) != 0;
        }
    }

    /** LEVERS, OFFICES and STRAPS, and how NAMES of an OFFICE stand. */
    private static final class Booth {
        static final int LEVERS = 16;
        static final int OFFICES = 6;
        private static final int STRAPS = 10;
        private static final int MOST_ORDERED = 10;
        private static final long TIMES = 6364136223846793005L;
        private static final long AND = 1442695040888963407L;

        final int levers;
        int offices;
        int straps;
        private final int[] officeLevers = new int[OFFICES];
        private final int[] officeMost = new int[OFFICES];
        private final int[] strapLevers = new int[STRAPS];
        private final int[] strapMost = new int[STRAPS];
        private int ruled;
        private boolean stale = true;
        private int lets;
        private int beating;
        private int barred;
        private int needed;
        private final int[] againstSome = new int[1 << STRAPS];
        private final int[] order = new int[LEVERS];

        Booth(int levers) {
            this.levers = Cells.nearest(levers, 2, LEVERS);
        }

        boolean isRow(int row) {
            return Cells.within(row, 0, Cells.all(levers));
        }

        boolean isLever(int lever) {
            return Cells.within(lever, 0, levers - 1);
        }

        boolean isOffice(int office) {
            return Cells.within(office, 0, offices - 1);
        }

        int addOffice(int set, int most) {
            if (!isRow(set) || set == 0 || (set & ruled) != 0 || offices >= OFFICES) {
                return NONE;
            }
            if (!Cells.within(most, 1, Integer.bitCount(set))) {
                return NONE;
            }
            Cells.put(officeLevers, offices, set);
            Cells.put(officeMost, offices, most);
            ruled |= set;
            stale = true;
            return offices++;
        }

        int addStrap(int set, int most) {
            if (!isRow(set) || set == 0 || straps >= STRAPS || !Cells.within(most, 0, Integer.bitCount(set))) {
                return NONE;
            }
            Cells.put(strapLevers, straps, set);
            Cells.put(strapMost, straps, most);
            stale = true;
            return straps++;
        }

        int dropStrap() {
            if (straps == 0) {
                return NONE;
            }
            straps--;
            stale = true;
            return straps;
        }

        int leversOf(int office) {
            return Cells.at(officeLevers, office);
        }

        int mostOf(int office) {
            return Cells.at(officeMost, office);
        }

        /** Whether a LEVER is of some OFFICE. */
        boolean isRuled(int lever) {
            return Cells.has(ruled, lever);
        }

        int officeOf(int lever) {
            for (int office = 0; office < offices; office++) {
                if (Cells.has(leversOf(office), lever)) {
                    return office;
                }
            }
            return NONE;
        }

        /** The STRAPS that do not let a ROW; a STRAP all of whose LEVERS are among the free ones lets all. */
        int strapsAgainst(int row, int free) {
            int against = 0;
            for (int strap = 0; strap < straps; strap++) {
                int held = Cells.at(strapLevers, strap);
                boolean off = (held & ~free) == 0;
                if (!off && Integer.bitCount(row & held) > Cells.at(strapMost, strap)) {
                    against |= Cells.bit(strap);
                }
            }
            return against;
        }

        boolean isLet(int row) {
            return strapsAgainst(row, 0) == 0;
        }

        boolean isLawful(int row) {
            for (int office = 0; office < offices; office++) {
                if (Integer.bitCount(row & leversOf(office)) > mostOf(office)) {
                    return false;
                }
            }
            return true;
        }

        int beatingRow() {
            sweep();
            return beating;
        }

        int barredRow() {
            sweep();
            return barred;
        }

        int letRows() {
            sweep();
            return lets;
        }

        int neededStraps() {
            sweep();
            return needed;
        }

        /** One way over all ROWS answers all that is asked of them till OFFICES or STRAPS are others. */
        private void sweep() {
            if (!stale) {
                return;
            }
            lets = 0;
            beating = NONE;
            barred = NONE;
            for (int against = 0; against < againstSome.length; against++) {
                againstSome[against] = 0;
            }
            for (int row = 0; row <= Cells.all(levers); row++) {
                int against = strapsAgainst(row, 0);
                boolean lawful = isLawful(row);
                Cells.put(againstSome, against, 1);
                if (against == 0) {
                    lets++;
                }
                if (against == 0 && !lawful && beating == NONE) {
                    beating = row;
                }
                if (against != 0 && lawful && barred == NONE) {
                    barred = row;
                }
            }
            needed = fewestStraps();
            stale = false;
        }

        private int fewestStraps() {
            int best = Cells.all(straps);
            for (int set = 0; set <= Cells.all(straps); set++) {
                if (Cells.better(set, best) && holdsAll(set)) {
                    best = set;
                }
            }
            return best;
        }

        /** Whether each ROW that some STRAP is against has one of these STRAPS against it. */
        private boolean holdsAll(int set) {
            for (int against = 1; against <= Cells.all(straps); against++) {
                if (Cells.at(againstSome, against) == 1 && (against & set) == 0) {
                    return false;
                }
            }
            return true;
        }

        /** Fewer LEVERS never stick where more do not: a ROW that is LET can be pulled in every order. */
        int waysToPull(int row) {
            if (!isRow(row) || Integer.bitCount(row) > MOST_ORDERED) {
                return NONE;
            }
            if (!isLet(row)) {
                return 0;
            }
            int ways = 1;
            for (int pulled = 2; pulled <= Integer.bitCount(row); pulled++) {
                ways *= pulled;
            }
            return ways;
        }

        /** Lays NAMES of an OFFICE out as they stand on MACHINE 0: how many there are. */
        int shuffle(int office, long seed) {
            int names = 0;
            for (int lever = 0; lever < levers; lever++) {
                if (Cells.has(leversOf(office), lever)) {
                    Cells.put(order, names, lever);
                    names++;
                }
            }
            long x = seed;
            for (int place = names - 1; place >= 1; place--) {
                x = x * TIMES + AND;
                Cells.swap(order, place, (int) ((x >>> 33) % (place + 1)));
            }
            return names;
        }

        int shuffledAt(int place, int names) {
            return Cells.at(order, Cells.modulo(place, names));
        }
    }

    /** The bytes that were fed and not yet taken for a TEXT. */
    private static final class Tape {
        static final int MOST = 120;

        final int[] bytes = new int[MOST];
        int length;

        static int bytesIn(int number) {
            int found = 0;
            for (int shift = 24; shift >= 0; shift -= 8) {
                if ((number >>> shift & 255) != 0) {
                    found++;
                }
            }
            return found;
        }

        void append(int number) {
            for (int shift = 24; shift >= 0; shift -= 8) {
                int next = number >>> shift & 255;
                if (next != 0 && length < MOST) {
                    Cells.put(bytes, length, next);
                    length++;
                }
            }
        }

        /** Whether it is a word of letters, or of letters and signs that can't be read. */
        boolean isWord(boolean blurred) {
            if (!Cells.within(length, 1, Papers.LETTERS)) {
                return false;
            }
            for (int i = 0; i < length; i++) {
                int letter = Cells.at(bytes, i);
                boolean blur = blurred && letter == '.';
                if (!blur && !Cells.within(letter, 'a', 'z')) {
                    return false;
                }
            }
            return true;
        }

        void copyTo(int[] row, int start) {
            for (int i = 0; i < length; i++) {
                Cells.put(row, start + i, Cells.at(bytes, i));
            }
        }
    }

    /** The LAWS, kept as their bytes, and which of them is in USE. */
    private static final class Laws {
        private static final int MOST = 4;
        private static final int MOST_VOTERS = 999;

        int number;
        int inUse = NONE;
        private final int[] texts = new int[MOST * Tape.MOST];
        private final int[] lengths = new int[MOST];
        private final LawReader reader = new LawReader();

        boolean isLaw(int law) {
            return Cells.within(law, 0, number - 1);
        }

        int faultIn(Tape tape) {
            reader.layText(tape.bytes, 0, tape.length);
            reader.worth();
            return reader.fault;
        }

        int add(Tape tape) {
            if (number >= MOST || faultIn(tape) != NONE) {
                return NONE;
            }
            tape.copyTo(texts, number * Tape.MOST);
            Cells.put(lengths, number, tape.length);
            tape.length = 0;
            return number++;
        }

        int votersBy(int law, int[] books, int start) {
            if (!isLaw(law)) {
                return Cells.at(books, start);
            }
            reader.layText(texts, law * Tape.MOST, Cells.at(lengths, law));
            reader.layBooks(books, start);
            return Cells.nearest(reader.worth(), 0, MOST_VOTERS);
        }

        int agreeing(int[] books, int start) {
            int agreeing = 0;
            for (int law = 0; law < number; law++) {
                if (votersBy(law, books, start) == Cells.at(books, start + Machines.COUNTER)) {
                    agreeing |= Cells.bit(law);
                }
            }
            return agreeing;
        }
    }

    /** Reads a TEXT as a LAW and works out its WORTH on the way; behind a FAULT all that it answers is void. */
    private static final class LawReader {
        private static final int MOST_WITHIN = 6;
        private static final int DIGITS = 4;
        private static final int BOUND = 1000000;
        private static final int NOTHING = -1;

        int fault = NONE;
        private final int[] text = new int[Tape.MOST];
        private final int[] books = new int[Machines.BOOKS];
        private int length;
        private int place;

        void layText(int[] row, int start, int many) {
            length = Cells.nearest(many, 0, text.length);
            for (int i = 0; i < length; i++) {
                Cells.put(text, i, Cells.at(row, start + i));
            }
        }

        void layBooks(int[] row, int start) {
            for (int i = 0; i < books.length; i++) {
                Cells.put(books, i, Cells.at(row, start + i));
            }
        }

        int worth() {
            place = 0;
            fault = NONE;
            boolean found = false;
            int worth = 0;
            for (int clause = 0; clause <= length; clause++) {
                expect('y');
                expect(':');
                int sign = next();
                boolean begun = sign != '!' && sign != '(';
                int sum = begun ? sum(0) : 0;
                boolean holds = true;
                if (!begun || isComparison(next())) {
                    holds = condition(0, begun, sum);
                    expect('?');
                    sum = sum(0);
                }
                if (holds && !found) {
                    found = true;
                    worth = sum;
                }
                if (next() != ';') {
                    break;
                }
                place++;
            }
            if (place < length) {
                stop();
            }
            return worth;
        }

        /** Its first SUM may have been read already: only behind a SUM a CLAUSE shows whether it has a CONDITION. */
        private boolean condition(int depth, boolean begun, int firstSum) {
            boolean some = false;
            boolean all = unit(depth, begun, firstSum);
            for (int units = 0; units < length; units++) {
                int sign = next();
                if (sign != '&' && sign != '|') {
                    break;
                }
                place++;
                boolean unit = unit(depth, false, 0);
                if (sign == '&') {
                    all = all && unit;
                } else {
                    some = some || all;
                    all = unit;
                }
            }
            return some || all;
        }

        private boolean unit(int depth, boolean begun, int firstSum) {
            int sign = begun ? NOTHING : next();
            if (sign == '!' && goesDeeper(depth)) {
                return !unit(depth + 1, false, 0);
            }
            if (sign == '(' && goesDeeper(depth)) {
                boolean holds = condition(depth + 1, false, 0);
                expect(')');
                return holds;
            }
            int left = begun ? firstSum : sum(depth);
            int comparison = next();
            if (!isComparison(comparison)) {
                stop();
                return false;
            }
            place++;
            int right = sum(depth);
            if (comparison == '=') {
                return left == right;
            }
            return comparison == '<' ? left < right : left > right;
        }

        private int sum(int depth) {
            int sum = 0;
            int plus = '+';
            int term = atom(depth);
            for (int atoms = 0; atoms < length; atoms++) {
                int sign = next();
                if (sign != '+' && sign != '-' && sign != '*' && sign != '/') {
                    break;
                }
                place++;
                int atom = atom(depth);
                if (sign == '*' || sign == '/') {
                    term = reckoned(term, sign, atom);
                } else {
                    sum = reckoned(sum, plus, term);
                    plus = sign;
                    term = atom;
                }
            }
            return reckoned(sum, plus, term);
        }

        private int atom(int depth) {
            int sign = next();
            if (sign == '[' && goesDeeper(depth)) {
                int sum = sum(depth + 1);
                expect(']');
                return sum;
            }
            if (isDigit(sign)) {
                return digits();
            }
            int book = bookOf(sign);
            if (book == NONE) {
                stop();
                return 0;
            }
            place++;
            return Cells.at(books, book);
        }

        /** A fifth digit is left where it stands: nothing goes on with it. */
        private int digits() {
            int value = 0;
            for (int digit = 0; digit < DIGITS; digit++) {
                int sign = place < length ? Cells.at(text, place) : NOTHING;
                if (!isDigit(sign)) {
                    break;
                }
                value = value * 10 + sign - '0';
                place++;
            }
            return value;
        }

        private static boolean isDigit(int sign) {
            return sign >= '0' && sign <= '9';
        }

        private static boolean isComparison(int sign) {
            return sign == '=' || sign == '<' || sign == '>';
        }

        private static int bookOf(int sign) {
            switch (sign) {
                case 's': return 0;
                case 'x': return 1;
                case 'f': return 2;
                case 'w': return 3;
                case 'p': return Machines.COUNTER;
                default: return NONE;
            }
        }

        private static int reckoned(int left, int sign, int right) {
            long result = left;
            if (sign == '+') {
                result += right;
            } else if (sign == '-') {
                result -= right;
            } else if (sign == '*') {
                result *= right;
            } else {
                result = right == 0 ? 0 : result / right;
            }
            return (int) Math.max(-BOUND, Math.min(BOUND, result));
        }

        private boolean goesDeeper(int depth) {
            if (depth >= MOST_WITHIN) {
                stop();
                return false;
            }
            place++;
            return true;
        }

        private void expect(int sign) {
            if (next() == sign) {
                place++;
            } else {
                stop();
            }
        }

        /** The next sign that is no blank. Behind a FAULT there is none, so that all that still goes on ends soon. */
        private int next() {
            if (fault != NONE) {
                return NOTHING;
            }
            for (; place >= 0 && place < length && place < text.length; place++) {
                if (text[place] != ' ') {
                    return text[place];
                }
            }
            return NOTHING;
        }

        private void stop() {
            if (fault == NONE) {
                fault = place;
            }
        }
    }

    /** MACHINES with their BOOKS, what they SHOW, their FAULTS and RECOUNTS. */
    private static final class Machines {
        static final int MOST = 6;
        static final int BOOKS = 5;
        static final int COUNTER = 4;
        static final int FAULTS = 8;
        static final int STICKS = 0;
        static final int SWAPPED = 1;
        static final int DEAD = 2;
        static final int BEGAN = 3;
        static final int OFF = 4;
        private static final int MOST_SHOWN = 999;
        private static final int RECOUNTS = 8;

        private final Booth booth;
        int number;
        final int[] books = new int[MOST * BOOKS];
        final int[] voters = new int[MOST];
        final int[] opened = new int[MOST];
        final int[] costs = new int[MOST];
        private final int[] shown = new int[MOST * Booth.LEVERS];
        private final int[] faults = new int[MOST];
        private final int[] kinds = new int[MOST * FAULTS];
        private final int[] firsts = new int[MOST * FAULTS];
        private final int[] seconds = new int[MOST * FAULTS];
        private final int[] recounts = new int[MOST * Booth.LEVERS];
        private final int[] recounted = new int[MOST * Booth.LEVERS * RECOUNTS];

        Machines(Booth booth) {
            this.booth = booth;
        }

        boolean isMachine(int machine) {
            return Cells.within(machine, 0, number - 1);
        }

        private static boolean isNumber(int value) {
            return Cells.within(value, 0, MOST_SHOWN);
        }

        int add(int s, int x, int f, int w, int p) {
            boolean fine = isNumber(s) && isNumber(x) && isNumber(f) && isNumber(w) && isNumber(p);
            if (!fine || number >= MOST) {
                return NONE;
            }
            int book = number * BOOKS;
            Cells.put(books, book, s);
            Cells.put(books, book + 1, x);
            Cells.put(books, book + 2, f);
            Cells.put(books, book + 3, w);
            Cells.put(books, book + COUNTER, p);
            Cells.put(opened, number, NONE);
            Cells.put(costs, number, 1);
            return number++;
        }

        private boolean isCounter(int machine, int lever) {
            return isMachine(machine) && booth.isLever(lever);
        }

        private static int counter(int machine, int lever) {
            return machine * Booth.LEVERS + lever;
        }

        boolean setShown(int machine, int lever, int value) {
            if (!isCounter(machine, lever) || !isNumber(value)) {
                return false;
            }
            Cells.put(shown, counter(machine, lever), value);
            return true;
        }

        int shownAt(int machine, int lever) {
            return Cells.at(shown, counter(machine, lever));
        }

        int addFault(int machine, int kind, int a, int b) {
            if (!isMachine(machine) || faultsOf(machine) >= FAULTS || !canBe(kind, a, b)) {
                return NONE;
            }
            int fault = faultsOf(machine);
            int cell = machine * FAULTS + fault;
            Cells.put(kinds, cell, kind);
            Cells.put(firsts, cell, a);
            Cells.put(seconds, cell, b);
            Cells.put(faults, machine, fault + 1);
            return fault;
        }

        private boolean canBe(int kind, int a, int b) {
            switch (kind) {
                case STICKS: return booth.isLever(a) && Cells.within(b, 0, 1);
                case SWAPPED: return booth.isLever(a) && booth.isLever(b) && a != b;
                case DEAD: return booth.isLever(a);
                case BEGAN: return booth.isLever(a) && Cells.within(b, 1, MOST_SHOWN);
                case OFF: return booth.isOffice(a);
                default: return false;
            }
        }

        int faultsOf(int machine) {
            return Cells.at(faults, machine);
        }

        int kindOf(int machine, int fault) {
            return Cells.at(kinds, machine * FAULTS + fault);
        }

        int firstOf(int machine, int fault) {
            return Cells.at(firsts, machine * FAULTS + fault);
        }

        int secondOf(int machine, int fault) {
            return Cells.at(seconds, machine * FAULTS + fault);
        }

        /** What is left on a wheel that does not carry: of the ones, or of the ones and tens. */
        static int wheel(int which) {
            return which == 0 ? 10 : 100;
        }

        int addRecount(int machine, int lever, int value) {
            if (!isCounter(machine, lever) || !isNumber(value)) {
                return NONE;
            }
            int counter = counter(machine, lever);
            int before = Cells.at(recounts, counter);
            if (before >= RECOUNTS) {
                return NONE;
            }
            Cells.put(recounted, counter * RECOUNTS + before, value);
            Cells.put(recounts, counter, before + 1);
            return before + 1;
        }

        int keptRecount(int machine, int lever, int i) {
            if (!isCounter(machine, lever)) {
                return NONE;
            }
            int counter = counter(machine, lever);
            boolean there = Cells.within(i, 0, Cells.at(recounts, counter) - 1);
            return there ? Cells.at(recounted, counter * RECOUNTS + i) : NONE;
        }

        int changes(int machine, int lever) {
            if (!isCounter(machine, lever)) {
                return NONE;
            }
            int counter = counter(machine, lever);
            int before = Cells.at(shown, counter);
            int changes = 0;
            for (int i = 0; i < Cells.at(recounts, counter); i++) {
                int now = Cells.at(recounted, counter * RECOUNTS + i);
                if (now != before) {
                    changes++;
                }
                before = now;
            }
            return changes;
        }

        /** The latest RECOUNT; what is SHOWN, where there is none. */
        private int latest(int machine, int lever) {
            int counter = counter(machine, lever);
            int many = Cells.at(recounts, counter);
            return many == 0 ? Cells.at(shown, counter) : Cells.at(recounted, counter * RECOUNTS + many - 1);
        }

        int unlikeShown(int machine) {
            int unlike = 0;
            for (int lever = 0; lever < booth.levers; lever++) {
                if (latest(machine, lever) != shownAt(machine, lever)) {
                    unlike |= Cells.bit(lever);
                }
            }
            return unlike;
        }

        int takeRecounts(int machine) {
            int changed = Integer.bitCount(unlikeShown(machine));
            for (int lever = 0; lever < booth.levers; lever++) {
                Cells.put(shown, counter(machine, lever), latest(machine, lever));
            }
            return changed;
        }
    }

    /** Which sets of FAULTS fit what a MACHINE SHOWS, and the PULLS that can be by them. */
    private static final class Fit {
        static final int ROUND = 1000;

        private final Booth booth;
        private final Machines machines;
        private final int[] counters = new int[Booth.LEVERS];
        private final int[] began = new int[Booth.LEVERS];
        private final int[] wheels = new int[Booth.LEVERS];
        private final int[] steps = new int[Booth.LEVERS];
        private final int[] lows = new int[Booth.LEVERS];
        private final int[] highs = new int[Booth.LEVERS];
        private int dead;
        private int off;

        Fit(Booth booth, Machines machines) {
            this.booth = booth;
            this.machines = machines;
        }

        int low(int lever) {
            return Cells.at(lows, lever);
        }

        int high(int lever) {
            return Cells.at(highs, lever);
        }

        /** The sets of FAULTS of a MACHINE are 0 till less than this. */
        int setsOf(int machine) {
            return Cells.bit(machines.faultsOf(machine));
        }

        /** Whether a set FITS; if it does, low and high tell of each LEVER of an OFFICE what its PULLS can be. */
        boolean lay(int machine, int set) {
            if (!Cells.within(set, 0, setsOf(machine) - 1)) {
                return false;
            }
            arrange(machine, set);
            int voters = Cells.at(machines.voters, machine);
            for (int lever = 0; lever < booth.levers; lever++) {
                if (booth.isRuled(lever) && !layLever(machine, lever, voters)) {
                    return false;
                }
            }
            for (int office = 0; office < booth.offices; office++) {
                if (!layOffice(office, voters)) {
                    return false;
                }
            }
            return true;
        }

        private void arrange(int machine, int set) {
            for (int lever = 0; lever < Booth.LEVERS; lever++) {
                Cells.put(counters, lever, lever);
                Cells.put(began, lever, 0);
                Cells.put(wheels, lever, ROUND);
            }
            dead = 0;
            off = 0;
            for (int fault = 0; fault < machines.faultsOf(machine); fault++) {
                if (Cells.has(set, fault)) {
                    int a = machines.firstOf(machine, fault);
                    arrangeFault(machines.kindOf(machine, fault), a, machines.secondOf(machine, fault));
                }
            }
        }

        private void arrangeFault(int kind, int a, int b) {
            switch (kind) {
                case Machines.STICKS:
                    Cells.put(wheels, a, Math.min(Cells.at(wheels, a), Machines.wheel(b)));
                    break;
                case Machines.SWAPPED:
                    Cells.swap(counters, a, b);
                    break;
                case Machines.DEAD:
                    dead |= Cells.bit(a);
                    break;
                case Machines.BEGAN:
                    Cells.put(began, a, b);
                    break;
                default:
                    off |= Cells.bit(a);
                    break;
            }
        }

        /** PULLS by which a LEVER's counter SHOWS what is told are the least of them and each a step on. */
        private boolean layLever(int machine, int lever, int voters) {
            int counter = Cells.at(counters, lever);
            int told = machines.shownAt(machine, counter);
            int wheel = Cells.at(wheels, counter);
            int start = Cells.at(began, counter);
            if (Cells.has(dead, counter)) {
                Cells.put(lows, lever, 0);
                Cells.put(steps, lever, 1);
                return Cells.modulo(start, wheel) == told;
            }
            int low = Cells.modulo(told - start, wheel);
            Cells.put(lows, lever, low);
            Cells.put(steps, lever, wheel);
            return told < wheel && low <= voters;
        }

        /** A LEVER's PULLS are greatest where those of all others of its OFFICE are least. */
        private boolean layOffice(int office, int voters) {
            int left = booth.mostOf(office) * voters;
            for (int lever = 0; lever < booth.levers; lever++) {
                if (Cells.has(booth.leversOf(office), lever)) {
                    left -= low(lever);
                }
            }
            boolean free = Cells.has(off, office);
            if (!free && left < 0) {
                return false;
            }
            for (int lever = 0; lever < booth.levers; lever++) {
                if (Cells.has(booth.leversOf(office), lever)) {
                    int more = voters - low(lever);
                    more = free ? more : Math.min(more, left);
                    Cells.put(highs, lever, low(lever) + more - Cells.modulo(more, Cells.at(steps, lever)));
                }
            }
            return true;
        }

        int howMany(int machine) {
            int many = 0;
            for (int set = 0; set < setsOf(machine); set++) {
                if (lay(machine, set)) {
                    many++;
                }
            }
            return many;
        }

        int numbered(int machine, int i) {
            int before = 0;
            for (int set = 0; set < setsOf(machine); set++) {
                if (lay(machine, set)) {
                    if (before == i) {
                        return set;
                    }
                    before++;
                }
            }
            return NONE;
        }

        int fewest(int machine) {
            int best = NONE;
            for (int set = 0; set < setsOf(machine); set++) {
                if ((best == NONE || Cells.better(set, best)) && lay(machine, set)) {
                    best = set;
                }
            }
            return best;
        }

        int inAll(int machine) {
            int common = NONE;
            for (int set = 0; set < setsOf(machine); set++) {
                if (lay(machine, set)) {
                    common = common == NONE ? set : common & set;
                }
            }
            return common;
        }

        int inSome(int machine) {
            int joined = NONE;
            for (int set = 0; set < setsOf(machine); set++) {
                if (lay(machine, set)) {
                    joined = joined == NONE ? set : joined | set;
                }
            }
            return joined;
        }
    }

    /** What all MACHINES together make sure: TOTALS, who is AHEAD, which to open. */
    private static final class Tally {
        private static final int PAIRS = Booth.LEVERS * Booth.LEVERS;
        private static final int MOST_ABSENT = 9999;
        private static final int FAR_ABOVE = 1000000;

        private final Booth booth;
        private final Machines machines;
        private final Fit fit;
        private final int[] leads = new int[Machines.MOST * PAIRS];
        private final int[] openedLeads = new int[Machines.MOST * PAIRS];
        private final int[] absentLeast = new int[Booth.LEVERS];
        private final int[] absentMost = new int[Booth.LEVERS];

        Tally(Booth booth, Machines machines, Fit fit) {
            this.booth = booth;
            this.machines = machines;
            this.fit = fit;
        }

        /** Whether a set FITS and is not ruled out by hand. */
        private boolean counts(int machine, int set) {
            int opened = Cells.at(machines.opened, machine);
            return (opened == NONE || opened == set) && fit.lay(machine, set);
        }

        int pullsAt(int machine, int lever, int what) {
            int found = NONE;
            for (int set = 0; set < fit.setsOf(machine); set++) {
                if (!counts(machine, set)) {
                    continue;
                }
                if (what == 0) {
                    found = found == NONE ? fit.low(lever) : Math.min(found, fit.low(lever));
                } else {
                    found = Math.max(found, fit.high(lever));
                }
            }
            return found;
        }

        int pullsOverAll(int lever, int what) {
            int sum = 0;
            for (int machine = 0; machine < machines.number; machine++) {
                int here = pullsAt(machine, lever, what);
                if (here == NONE) {
                    return NONE;
                }
                sum += here;
            }
            return sum;
        }

        private static int pair(int machine, int a, int b) {
            return machine * PAIRS + a * Booth.LEVERS + b;
        }

        /** Works out the least leads of some LEVERS in one OFFICE on each MACHINE; false, if on one no set counts. */
        private boolean weigh(int office, int ahead) {
            for (int machine = 0; machine < machines.number; machine++) {
                for (int i = 0; i < PAIRS; i++) {
                    Cells.put(leads, machine * PAIRS + i, FAR_ABOVE);
                }
                boolean some = false;
                for (int set = 0; set < fit.setsOf(machine); set++) {
                    if (counts(machine, set)) {
                        some = true;
                        lower(leads, machine, office, ahead);
                    }
                }
                if (!some) {
                    return false;
                }
            }
            return true;
        }

        /** The same for each MACHINE that could still be OPENED, with its FEWEST alone. */
        private void weighOpened(int office, int ahead) {
            for (int machine = 0; machine < machines.number; machine++) {
                for (int i = 0; i < PAIRS; i++) {
                    Cells.put(openedLeads, machine * PAIRS + i, FAR_ABOVE);
                }
                if (fit.lay(machine, fit.fewest(machine))) {
                    lower(openedLeads, machine, office, ahead);
                }
            }
        }

        /** By one set a's least and b's greatest can be at once, since each leaves the others their least. */
        private void lower(int[] table, int machine, int office, int ahead) {
            for (int a = 0; a < booth.levers; a++) {
                for (int b = 0; Cells.has(ahead, a) && b < booth.levers; b++) {
                    if (Cells.has(booth.leversOf(office), b)) {
                        int cell = pair(machine, a, b);
                        Cells.put(table, cell, Math.min(Cells.at(table, cell), fit.low(a) - fit.high(b)));
                    }
                }
            }
        }

        int leastLead(int a, int b) {
            int office = booth.officeOf(a);
            if (office == NONE || a == b || booth.officeOf(b) != office || !weigh(office, Cells.bit(a))) {
                return HIDDEN;
            }
            return lead(a, b, 0);
        }

        /** The lead over all MACHINES, if some of them were OPENED. */
        private int lead(int a, int b, int opening) {
            int sum = 0;
            for (int machine = 0; machine < machines.number; machine++) {
                int[] table = Cells.has(opening, machine) ? openedLeads : leads;
                sum += Cells.at(table, pair(machine, a, b));
            }
            return sum;
        }

        private boolean leadsAll(int lever, int office, int opening) {
            for (int other = 0; other < booth.levers; other++) {
                boolean rival = other != lever && Cells.has(booth.leversOf(office), other);
                if (rival && lead(lever, other, opening) < 1) {
                    return false;
                }
            }
            return true;
        }

        int winner(int office) {
            if (!weigh(office, booth.leversOf(office))) {
                return NONE;
            }
            for (int lever = 0; lever < booth.levers; lever++) {
                if (Cells.has(booth.leversOf(office), lever) && leadsAll(lever, office, 0)) {
                    return lever;
                }
            }
            return NONE;
        }

        int cheapestOpening(int lever) {
            int office = booth.officeOf(lever);
            if (!weigh(office, Cells.bit(lever))) {
                return NONE;
            }
            weighOpened(office, Cells.bit(lever));
            int best = NONE;
            for (int set = 0; set <= Cells.all(machines.number); set++) {
                if (canOpen(set) && (best == NONE || isCheaper(set, best)) && leadsAll(lever, office, set)) {
                    best = set;
                }
            }
            return best;
        }

        private boolean canOpen(int set) {
            for (int machine = 0; machine < machines.number; machine++) {
                if (Cells.has(set, machine) && Cells.at(machines.opened, machine) != NONE) {
                    return false;
                }
            }
            return true;
        }

        private boolean isCheaper(int set, int than) {
            int saved = costOf(than) - costOf(set);
            return saved > 0 || saved == 0 && Cells.better(set, than);
        }

        int costOf(int set) {
            int sum = 0;
            for (int machine = 0; machine < machines.number; machine++) {
                if (Cells.has(set, machine)) {
                    sum += Cells.at(machines.costs, machine);
                }
            }
            return sum;
        }

        boolean setAbsent(int lever, int least, int most) {
            boolean fine = Cells.within(least, 0, MOST_ABSENT) && Cells.within(most, least, MOST_ABSENT);
            if (!booth.isLever(lever) || !fine) {
                return false;
            }
            Cells.put(absentLeast, lever, least);
            Cells.put(absentMost, lever, most);
            return true;
        }

        int leastAbsent(int lever) {
            return Cells.at(absentLeast, lever);
        }

        int mostAbsent(int lever) {
            return Cells.at(absentMost, lever);
        }
    }

    /** TESTS and the FAULTS that they see. */
    private static final class Trials {
        private static final int MOST = 8;
        private static final int MOST_TIMES = 200;

        private final Booth booth;
        private final Machines machines;
        int number;
        private final int[] pulled = new int[MOST];
        private final int[] times = new int[MOST];
        private final int[] seen = new int[MOST];

        Trials(Booth booth, Machines machines) {
            this.booth = booth;
            this.machines = machines;
        }

        boolean isTest(int test) {
            return Cells.within(test, 0, number - 1);
        }

        int add(int row, int many) {
            if (!booth.isRow(row) || !Cells.within(many, 0, MOST_TIMES) || number >= MOST) {
                return NONE;
            }
            Cells.put(pulled, number, row);
            Cells.put(times, number, many);
            return number++;
        }

        int seenBy(int test, int machine) {
            int found = 0;
            for (int fault = 0; fault < machines.faultsOf(machine); fault++) {
                if (seesFault(test, machine, fault)) {
                    found |= Cells.bit(fault);
                }
            }
            return found;
        }

        private boolean seesFault(int test, int machine, int fault) {
            for (int lever = 0; lever < booth.levers; lever++) {
                if (booth.isRuled(lever) && shows(test, machine, fault, lever) != pulls(test, lever, 0)) {
                    return true;
                }
            }
            return false;
        }

        /** How often a LEVER is pulled in a TEST, if the STRAPS on the free LEVERS alone are off. */
        private int pulls(int test, int lever, int free) {
            int row = Cells.at(pulled, test);
            boolean moves = Cells.has(row, lever) && booth.strapsAgainst(row, free) == 0;
            return moves ? Cells.at(times, test) : 0;
        }

        /** What the counter of this number SHOWS behind a TEST, with one FAULT alone. */
        private int shows(int test, int machine, int fault, int counter) {
            int a = machines.firstOf(machine, fault);
            int b = machines.secondOf(machine, fault);
            int kind = machines.kindOf(machine, fault);
            if (kind == Machines.OFF) {
                return pulls(test, counter, booth.leversOf(a));
            }
            if (kind == Machines.SWAPPED && counter == b) {
                return pulls(test, a, 0);
            }
            int right = pulls(test, counter, 0);
            if (counter != a) {
                return right;
            }
            switch (kind) {
                case Machines.STICKS: return Cells.modulo(right, Machines.wheel(b));
                case Machines.SWAPPED: return pulls(test, b, 0);
                case Machines.DEAD: return 0;
                default: return Cells.modulo(b + right, Fit.ROUND);
            }
        }

        int fewestSeeingAll(int machine) {
            int wanted = 0;
            for (int test = 0; test < number; test++) {
                Cells.put(seen, test, seenBy(test, machine));
                wanted |= Cells.at(seen, test);
            }
            int best = Cells.all(number);
            for (int set = 0; set <= Cells.all(number); set++) {
                if (Cells.better(set, best) && seenByAnyOf(set) == wanted) {
                    best = set;
                }
            }
            return best;
        }

        private int seenByAnyOf(int set) {
            int found = 0;
            for (int test = 0; test < number; test++) {
                if (Cells.has(set, test)) {
                    found |= Cells.at(seen, test);
                }
            }
            return found;
        }
    }

    /** NAMES written in, PAPERS and what HANDS read of them. */
    private static final class Papers {
        static final int LETTERS = 8;
        private static final int NAMES = 8;
        private static final int HANDS = 4;
        private static final int PAPERS = 30;

        int names;
        int limit = 1;
        private final int[] nameTexts = new int[NAMES * LETTERS];
        private final int[] nameLengths = new int[NAMES];
        private final int[] readTexts = new int[PAPERS * HANDS * LETTERS];
        private final int[] readLengths = new int[PAPERS * HANDS];
        private final int[] fars = new int[PAPERS * HANDS * NAMES];
        private final int[] above = new int[LETTERS + 1];

        boolean isName(int name) {
            return Cells.within(name, 0, names - 1);
        }

        private static int reading(int hand, int paper) {
            return paper * HANDS + hand;
        }

        boolean isRead(int hand, int paper) {
            boolean there = Cells.within(hand, 0, HANDS - 1) && Cells.within(paper, 0, PAPERS - 1);
            return there && Cells.at(readLengths, reading(hand, paper)) > 0;
        }

        int addName(Tape tape) {
            if (names >= NAMES || !tape.isWord(false)) {
                return NONE;
            }
            for (int name = 0; name < names; name++) {
                if (isSame(tape.bytes, 0, nameTexts, name * LETTERS, tape.length)
                        && Cells.at(nameLengths, name) == tape.length) {
                    return NONE;
                }
            }
            tape.copyTo(nameTexts, names * LETTERS);
            Cells.put(nameLengths, names, tape.length);
            tape.length = 0;
            for (int reading = 0; reading < PAPERS * HANDS; reading++) {
                measure(reading, names);
            }
            return names++;
        }

        boolean setReading(int hand, int paper, Tape tape) {
            boolean there = Cells.within(hand, 0, HANDS - 1) && Cells.within(paper, 0, PAPERS - 1);
            if (!there || !tape.isWord(true)) {
                return false;
            }
            int reading = reading(hand, paper);
            tape.copyTo(readTexts, reading * LETTERS);
            Cells.put(readLengths, reading, tape.length);
            tape.length = 0;
            for (int name = 0; name < names; name++) {
                measure(reading, name);
            }
            return true;
        }

        private static boolean isSame(int[] row, int start, int[] other, int otherStart, int length) {
            for (int i = 0; i < length; i++) {
                if (Cells.at(row, start + i) != Cells.at(other, otherStart + i)) {
                    return false;
                }
            }
            return true;
        }

        /** FAR depends on the two texts alone, so that it is worked out once, when the later of them comes. */
        private void measure(int reading, int name) {
            int wide = Cells.at(nameLengths, name);
            for (int j = 0; j <= wide; j++) {
                Cells.put(above, j, j);
            }
            for (int i = 1; i <= Cells.at(readLengths, reading); i++) {
                int sign = Cells.at(readTexts, reading * LETTERS + i - 1);
                int diagonal = Cells.at(above, 0);
                Cells.put(above, 0, i);
                for (int j = 1; j <= wide; j++) {
                    boolean like = sign == '.' || sign == Cells.at(nameTexts, name * LETTERS + j - 1);
                    int changed = diagonal + (like ? 0 : 1);
                    diagonal = Cells.at(above, j);
                    int moved = Math.min(diagonal, Cells.at(above, j - 1)) + 1;
                    Cells.put(above, j, Math.min(changed, moved));
                }
            }
            Cells.put(fars, reading * NAMES + name, Cells.at(above, wide));
        }

        int farFrom(int hand, int paper, int name) {
            return Cells.at(fars, reading(hand, paper) * NAMES + name);
        }

        /** The NAMES that a reading GOES to or is in DOUBT between; none, if it is LOST. */
        int nearest(int hand, int paper) {
            int least = limit;
            int found = 0;
            for (int name = 0; name < names; name++) {
                int far = farFrom(hand, paper, name);
                if (far < least) {
                    least = far;
                    found = 0;
                }
                if (far == least) {
                    found |= Cells.bit(name);
                }
            }
            return found;
        }

        private boolean isReadAtAll(int paper) {
            for (int hand = 0; hand < HANDS; hand++) {
                if (isRead(hand, paper)) {
                    return true;
                }
            }
            return false;
        }

        int agreedName(int paper) {
            boolean read = false;
            int common = Cells.all(names);
            for (int hand = 0; hand < HANDS; hand++) {
                if (isRead(hand, paper)) {
                    int near = nearest(hand, paper);
                    common &= Integer.bitCount(near) == 1 ? near : 0;
                    read = true;
                }
            }
            return read && common != 0 ? Integer.numberOfTrailingZeros(common) : NONE;
        }

        private boolean isUnlike(int paper) {
            int first = NONE;
            for (int hand = 0; hand < HANDS; hand++) {
                int reading = reading(hand, paper);
                int length = Cells.at(readLengths, reading);
                if (length == 0) {
                    continue;
                }
                if (first == NONE) {
                    first = reading;
                }
                boolean same = length == Cells.at(readLengths, first)
                        && isSame(readTexts, reading * LETTERS, readTexts, first * LETTERS, length);
                if (!same) {
                    return true;
                }
            }
            return false;
        }

        private boolean counts(int paper, int what) {
            switch (what) {
                case 0: return isReadAtAll(paper);
                case 1: return agreedName(paper) != NONE;
                case 2: return isReadAtAll(paper) && agreedName(paper) == NONE;
                default: return isUnlike(paper);
            }
        }

        int howMany(int what) {
            int many = 0;
            for (int paper = 0; paper < PAPERS; paper++) {
                if (counts(paper, what)) {
                    many++;
                }
            }
            return many;
        }

        int sureFor(int name) {
            int many = 0;
            for (int paper = 0; paper < PAPERS; paper++) {
                if (agreedName(paper) == name) {
                    many++;
                }
            }
            return many;
        }

        int mostFor(int name) {
            int many = 0;
            for (int paper = 0; paper < PAPERS; paper++) {
                if (mayBeFor(paper, name)) {
                    many++;
                }
            }
            return many;
        }

        private boolean mayBeFor(int paper, int name) {
            for (int hand = 0; hand < HANDS; hand++) {
                if (isRead(hand, paper) && Cells.has(nearest(hand, paper), name)) {
                    return true;
                }
            }
            return false;
        }

        int sureWinner() {
            for (int name = 0; name < names; name++) {
                if (isAboveOthers(name)) {
                    return name;
                }
            }
            return NONE;
        }

        private boolean isAboveOthers(int name) {
            int sure = sureFor(name);
            for (int other = 0; other < names; other++) {
                if (other != name && mostFor(other) >= sure) {
                    return false;
                }
            }
            return true;
        }
    }

    /** EVENTS of MACHINES: when each was open, and where it stood. */
    private static final class Seals {
        private static final int MOST = 20;
        private static final int SEALED = 0;
        private static final int SEEN = 1;
        private static final int CUT = 2;
        private static final int MOVED = 3;
        private static final int LAST = 9999;
        private static final int LAST_PLACE = 9;

        private final int[] events = new int[Machines.MOST];
        private final int[] times = new int[Machines.MOST * MOST];
        private final int[] kinds = new int[Machines.MOST * MOST];
        private final int[] values = new int[Machines.MOST * MOST];
        private int bad;
        private int openParts;

        static boolean isTime(int time) {
            return Cells.within(time, 0, LAST);
        }

        static boolean isSpan(int from, int to) {
            return isTime(from) && isTime(to) && from < to;
        }

        static boolean isPlace(int place) {
            return Cells.within(place, 0, LAST_PLACE);
        }

        private static boolean canBe(int kind, int value) {
            switch (kind) {
                case SEALED:
                case SEEN: return Cells.within(value, 0, LAST);
                case CUT: return true;
                case MOVED: return isPlace(value);
                default: return false;
            }
        }

        int add(int machine, int time, int kind, int value) {
            int before = Cells.at(events, machine);
            int cell = machine * MOST + before;
            int earliest = before == 0 ? 0 : Cells.at(times, cell - 1);
            if (before >= MOST || !isTime(time) || time < earliest || !canBe(kind, value)) {
                return NONE;
            }
            Cells.put(times, cell, time);
            Cells.put(kinds, cell, kind);
            Cells.put(values, cell, value);
            Cells.put(events, machine, before + 1);
            return before + 1;
        }

        /** Part i of time ends with EVENT i; that which is behind the last EVENT has its number too. */
        private void follow(int machine) {
            boolean shut = false;
            int seal = 0;
            bad = 0;
            openParts = Cells.bit(0);
            for (int event = 0; event < Cells.at(events, machine); event++) {
                int kind = Cells.at(kinds, machine * MOST + event);
                int value = Cells.at(values, machine * MOST + event);
                if (kind == SEALED) {
                    bad |= shut ? Cells.bit(event) : 0;
                    shut = true;
                    seal = value;
                } else if (kind == SEEN && (!shut || value != seal)) {
                    bad |= Cells.bit(event);
                    openParts |= Cells.bit(event);
                    shut = false;
                } else if (kind == CUT) {
                    shut = false;
                }
                openParts |= shut ? 0 : Cells.bit(event + 1);
            }
        }

        int badEvents(int machine) {
            follow(machine);
            return bad;
        }

        /** How much of a span of time it was open, but at the place that is left out (NONE: at any). */
        int openTime(int machine, int without, int from, int to) {
            follow(machine);
            int many = Cells.at(events, machine);
            int start = 0;
            int place = 0;
            int sum = 0;
            for (int part = 0; part <= many; part++) {
                int cell = machine * MOST + part;
                int finish = part < many ? Cells.at(times, cell) : LAST;
                if (Cells.has(openParts, part) && place != without) {
                    sum += Math.max(0, Math.min(finish, to) - Math.max(start, from));
                }
                start = finish;
                if (part < many && Cells.at(kinds, cell) == MOVED) {
                    place = Cells.at(values, cell);
                }
            }
            return sum;
        }

        int placeThen(int machine, int time) {
            int place = 0;
            for (int event = 0; event < Cells.at(events, machine); event++) {
                int cell = machine * MOST + event;
                if (Cells.at(kinds, cell) == MOVED && Cells.at(times, cell) <= time) {
                    place = Cells.at(values, cell);
                }
            }
            return place;
        }
    }
}
