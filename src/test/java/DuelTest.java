import java.lang.reflect.InvocationTargetException;
import java.lang.reflect.Method;
import java.util.ArrayList;
import java.util.HashMap;
import java.util.List;
import java.util.Map;
import java.util.Random;
import java.util.TreeMap;

/**
 * Runs of random calls, fitting ones and wrong ones, on the program and on PlainCurtain: all answers are to
 * be the same. With two numbers: how many runs, and from which seed on.
 */
public final class DuelTest {
    private static final int CALLS = 512;
    private static final int RUNS = 250;

    private final Random random;
    private final LeverCurtain program;
    private final PlainCurtain plain;
    private final int levers;
    private final int most;
    private final List<String> told = new ArrayList<>();
    private boolean wrong;
    private int calls;

    private static final Map<String, Method> PROGRAM = methods(LeverCurtain.class);
    private static final Map<String, Method> PLAIN = methods(PlainCurtain.class);
    private static final Map<String, int[]> ANSWERS = new TreeMap<>();
    private static int skipped;

    private DuelTest(long seed) {
        random = new Random(seed);
        int[] sizes = {-5, 2, 3, 4, 4, 5, 5, 6, 6, 7, 9, 11, 16, 40};
        levers = Math.max(2, Math.min(16, sizes[random.nextInt(sizes.length)]));
        int[] mosts = {3, 5, 9, 13, 30, 60, 120, 250, 999};
        most = mosts[random.nextInt(mosts.length)];
        program = new LeverCurtain(levers == 16 ? 16 + random.nextInt(9) : levers);
        plain = new PlainCurtain(levers);
    }

    private static Map<String, Method> methods(Class<?> type) {
        Map<String, Method> methods = new HashMap<>();
        for (Method method : type.getDeclaredMethods()) {
            if ((method.getModifiers() & java.lang.reflect.Modifier.PRIVATE) == 0) {
                method.setAccessible(true);
                methods.put(method.getName(), method);
            }
        }
        return methods;
    }

    public static void main(String[] args) throws Exception {
        int runs = args.length > 0 ? Integer.parseInt(args[0]) : RUNS;
        long start = args.length > 1 ? Long.parseLong(args[1]) : 1;
        int wrong = 0;
        for (long seed = start; seed < start + runs; seed++) {
            DuelTest duel = new DuelTest(seed);
            duel.run();
            if (duel.wrong) {
                wrong++;
                System.out.println("seed " + seed + ":");
                int from = Math.max(0, duel.told.size() - 60);
                duel.told.subList(from, duel.told.size()).forEach(System.out::println);
            }
        }
        if (args.length > 0) {
            ANSWERS.forEach((name, tally) -> System.out.println(name + ": refused " + tally[0] + ", told " + tally[1]));
            System.out.println("too much for the plain one: " + skipped);
        }
        System.out.println(runs + " runs, " + wrong + " wrong");
        if (wrong != 0) {
            System.exit(1);
        }
    }

    private void run() throws Exception {
        if (random.nextInt(4) > 0) {
            prepare();
        }
        while (calls < CALLS && !wrong) {
            step(random.nextInt(64));
        }
    }

    private long call(String name, Object... args) throws Exception {
        if (wrong || calls >= CALLS) {
            return 0;
        }
        calls++;
        StringBuilder text = new StringBuilder(name).append(java.util.Arrays.toString(args));
        Object want;
        try {
            want = PLAIN.get(name).invoke(plain, args);
        } catch (InvocationTargetException e) {
            if (e.getCause() instanceof PlainCurtain.TooMuch) {
                skipped++;
                if (name.equals("open")) {
                    // which sets fit is not known then, so that both must stay as they are
                    return 0;
                }
                PROGRAM.get(name).invoke(program, args);
                return 0;
            }
            throw e;
        }
        Object got = PROGRAM.get(name).invoke(program, args);
        told.add(text + " = " + got);
        boolean refused = got.equals(false) || got.equals(LeverCurtain.NONE) || got.equals(LeverCurtain.HIDDEN);
        ANSWERS.computeIfAbsent(name, key -> new int[2])[refused ? 0 : 1]++;
        if (!got.equals(want)) {
            told.add("   but due is " + want);
            wrong = true;
        }
        return got instanceof Boolean yes ? yes ? 1 : 0 : (Integer) got;
    }

    private void prepare() throws Exception {
        int left = (1 << levers) - 1;
        for (int i = 0; i < 1 + random.nextInt(3) && left != 0; i++) {
            int set = left & random.nextInt(1 << levers);
            if (levers > 8) {
                set &= random.nextInt(1 << levers);
            }
            if (set != 0) {
                call("office", set, 1 + random.nextInt(Integer.bitCount(set)));
                left &= ~set;
            }
        }
        for (int i = random.nextInt(3); i >= 0; i--) {
            call("machine", random.nextInt(most + 1), number(), number(), number(), number());
        }
        for (int i = random.nextInt(6); i >= 0; i--) {
            trouble();
        }
        scene();
    }

    private boolean rare() {
        return random.nextInt(25) == 0;
    }

    private int wild() {
        int[] wild = {-1, -2, 999, 1000, 9999, 10000, -100000, Integer.MAX_VALUE, Integer.MIN_VALUE, 31, 32, 33, 64};
        return random.nextBoolean() ? random.nextInt() : wild[random.nextInt(wild.length)];
    }

    private int below(int many) {
        return rare() ? wild() : rare() ? many : many > 0 ? random.nextInt(many) : 0;
    }

    private int lever() {
        return below(levers);
    }

    /** A LEVER of some OFFICE, mostly. */
    private int ruled() {
        int lever = lever();
        for (int i = 0; i < 5 && plain.officeOf(lever) < 0; i++) {
            lever = lever();
        }
        return lever;
    }

    /** Another of the same OFFICE, mostly. */
    private int mate(int lever) {
        int mate = lever();
        for (int i = 0; i < 8 && (mate == lever || plain.officeOf(mate) != plain.officeOf(lever)); i++) {
            mate = lever();
        }
        return mate;
    }

    private int machine() {
        return below(plain.count(3));
    }

    private int row() {
        return rare() ? wild() : random.nextInt((1 << levers) + (rare() ? 1 : 0));
    }

    private int smallRow() {
        return rare() ? row() : row() & row();
    }

    private int number() {
        return rare() ? wild() : random.nextInt(most + 1);
    }

    private int what(int many) {
        return rare() ? wild() : random.nextInt(many);
    }

    private int time() {
        return rare() ? wild() : random.nextInt(120);
    }

    private long seed() {
        return random.nextBoolean() ? random.nextLong() : random.nextInt(50) - 5;
    }

    private void trouble() throws Exception {
        int kind = rare() ? wild() : random.nextInt(5);
        int a = kind == 4 ? below(plain.count(0)) : lever();
        int b = kind == 0 ? below(2) : kind == 3 ? 1 + number() : lever();
        call("trouble", machine(), kind, a, b);
    }

    /** Shows what some true PULLS and some of the FAULTS lead to, so that sets fit. */
    private void scene() throws Exception {
        int many = plain.count(3);
        if (many == 0) {
            return;
        }
        int machine = random.nextInt(many);
        int set = random.nextInt(1 << plain.faultsOf(machine)) & random.nextInt(256);
        int[] pulls = new int[16];
        int voters = plain.voters(machine);
        for (int lever = 0; lever < 16; lever++) {
            pulls[lever] = random.nextInt(voters + 1) / (1 + random.nextInt(3));
        }
        int[] shown = plain.shownAfter(machine, set, pulls);
        for (int lever = 0; lever < levers; lever++) {
            call("show", machine, lever, shown[lever]);
        }
    }

    private void feed(String text) throws Exception {
        for (int i = 0; i < text.length(); i += 20) {
            Object[] numbers = {0, 0, 0, 0, 0};
            int at = 0;
            for (int j = i; j < Math.min(i + 20, text.length()); j++) {
                numbers[at / 4] = (Integer) numbers[at / 4] | text.charAt(j) << 24 - at % 4 * 8;
                at++;
            }
            call("feed", numbers);
        }
    }

    private void law() throws Exception {
        call("end", 0);
        String text = new RandomLaw(random).text(120);
        feed(rare() || random.nextInt(3) == 0 ? RandomLaw.spoiled(random, text) : text);
        call("fault");
        call("law");
    }

    private void word(String name, Object... args) throws Exception {
        if (!rare()) {
            call("end", 0);
        }
        StringBuilder word = new StringBuilder();
        int length = rare() ? random.nextInt(11) : 2 + random.nextInt(4);
        String letters = name.equals("read") && random.nextInt(3) == 0 ? "ab." : rare() ? "ab.Z{`" : "abc";
        for (int i = 0; i < length; i++) {
            word.append(letters.charAt(random.nextInt(letters.length())));
        }
        feed(word.toString());
        call(name, args);
    }

    private void step(int which) throws Exception {
        switch (which) {
            case 0 -> call("office", smallRow(), below(3) + (rare() ? 0 : 1));
            case 1, 2 -> call("strap", smallRow(), below(4));
            case 3 -> call("unstrap");
            case 4 -> call("may", row(), what(2));
            case 5 -> call("proof", what(2));
            case 6 -> call("rows");
            case 7 -> call("need");
            case 8 -> call("orders", row());
            case 9 -> {
                for (int i = random.nextInt(8); i >= 0; i--) {
                    call("feed", random.nextInt(), random.nextInt(), random.nextInt(256), 0, wild());
                }
            }
            case 10 -> call("end", below(plain.count(5) + 1));
            case 11, 12 -> law();
            case 13 -> call("use", rare() ? -1 : below(plain.count(2)));
            case 14 -> call("machine", number(), number(), number(), number(), number());
            case 15 -> call("voters", machine());
            case 16 -> call("agree", machine());
            case 17 -> call("show", machine(), lever(), number());
            case 18, 19 -> trouble();
            case 20, 21 -> scene();
            case 22 -> call("fitting", machine(), random.nextInt(3) == 0 ? -1 : below(8));
            case 23, 24 -> call("sets", machine(), what(3));
            case 25, 26, 27 -> call("span", machine(), ruled(), what(2));
            case 28 -> call("open", machine(), random.nextInt(3) == 0 ? -1 : random.nextInt(8) & random.nextInt(256));
            case 29 -> call("total", ruled(), what(2));
            case 30, 31 -> pair("ahead");
            case 32 -> call("wins", below(plain.count(0)));
            case 33 -> call("cost", machine(), below(51));
            case 34, 35 -> call("till", ruled(), what(2));
            case 36 -> call("test", row(), below(201));
            case 37 -> call("sees", below(plain.count(4)), machine());
            case 38 -> call("cover", machine());
            case 39 -> call("name", below(plain.count(0)), seed(), below(6), below(4));
            case 40 -> call("first", ruled(), seed(), below(101));
            case 41, 42 -> word("known");
            case 43, 44, 45 -> word("read", below(4), rare() ? below(31) : below(5));
            case 46 -> call("limit", below(9));
            case 47 -> call("far", below(4), below(5), below(plain.count(8)));
            case 48 -> call("goes", below(4), below(5));
            case 49 -> call("agrees", below(5));
            case 50 -> call("papers", what(4));
            case 51 -> call("writtenFor", below(plain.count(8)), what(2));
            case 52 -> call("elected");
            case 53 -> call("absent", lever(), below(30), below(60));
            case 54 -> pair("joinedAhead");
            case 55, 56 -> event();
            case 57 -> call("badOnes", machine());
            case 58 -> call("exposed", machine(), time(), random.nextInt(9) == 0 ? 9999 : time());
            case 59 -> call("placeAt", machine(), time());
            case 60 -> call("alone", machine(), below(3), time(), time());
            case 61 -> recounts();
            case 62 -> call("take", machine());
            default -> call("count", what(10));
        }
    }

    private void pair(String name) throws Exception {
        int a = ruled();
        call(name, a, mate(a));
    }

    private int lastTime;

    private void event() throws Exception {
        lastTime = random.nextInt(15) == 0 ? random.nextInt(110) : Math.min(110, lastTime + random.nextInt(6));
        int time = rare() ? wild() : lastTime;
        int kind = rare() ? wild() : random.nextInt(4);
        call("event", machine(), time, kind, kind == 3 ? below(10) : below(3));
    }

    private void recounts() throws Exception {
        int machine = machine();
        int lever = lever();
        call("recount", machine, lever, below(4));
        call("kept", machine, lever, below(5));
        call("changed", machine, lever);
        call("differs", machine);
    }
}
