import java.lang.reflect.Constructor;
import java.lang.reflect.Field;
import java.lang.reflect.Member;
import java.lang.reflect.Method;
import java.lang.reflect.Modifier;
import java.util.Arrays;
import java.util.Random;
import java.util.TreeSet;

/** The public face is the document's and no more; no call throws, whatever it is given, in many states. */
public final class FaceTest {
    private static final String[] FACE = {
        "int office(int,int)", "int strap(int,int)", "int unstrap()", "int may(int,int)", "int proof(int)",
        "int rows()", "int need()", "int orders(int)", "int feed(int,int,int,int,int)", "boolean end(int)",
        "int fault()", "int law()", "boolean use(int)", "int machine(int,int,int,int,int)", "int voters(int)",
        "int agree(int)", "boolean show(int,int,int)", "int trouble(int,int,int,int)", "int fitting(int,int)",
        "int sets(int,int)", "int span(int,int,int)", "boolean open(int,int)", "int total(int,int)",
        "int ahead(int,int)", "int wins(int)", "boolean cost(int,int)", "int till(int,int)", "int test(int,int)",
        "int sees(int,int)", "int cover(int)", "int name(int,long,int,int)", "int first(int,long,int)",
        "int known()", "boolean read(int,int)", "boolean limit(int)", "int far(int,int,int)", "int goes(int,int)",
        "int agrees(int)", "int papers(int)", "int writtenFor(int,int)", "int elected()",
        "boolean absent(int,int,int)", "int joinedAhead(int,int)", "int event(int,int,int,int)",
        "int badOnes(int)", "int exposed(int,int,int)", "int placeAt(int,int)", "int alone(int,int,int,int)",
        "int recount(int,int,int)", "int kept(int,int,int)", "int changed(int,int)", "int differs(int)",
        "int take(int)", "int count(int)"};
    private static final int[] WILD = {0, 1, 2, 3, 4, 5, 6, 7, 8, 9, 10, 15, 16, 17, 29, 30, 31, 32, 33, 100, 101,
        200, 255, 256, 999, 1000, 1023, 9999, 10000, 65535, 65536, -1, -2, -7, -16, -32, -100000, 1 << 30,
        Integer.MAX_VALUE, Integer.MAX_VALUE - 1, Integer.MIN_VALUE, Integer.MIN_VALUE + 1, 0x793a733b, 0x61626364};

    public static void main(String[] args) throws Exception {
        face();
        constants();
        members();
        wildCalls();
        Due.end();
    }

    private static boolean isShown(Member member) {
        return !Modifier.isPrivate(member.getModifiers());
    }

    private static String text(Method method) {
        StringBuilder text = new StringBuilder(method.getReturnType() + " " + method.getName() + "(");
        for (Class<?> type : method.getParameterTypes()) {
            text.append(text.charAt(text.length() - 1) == '(' ? "" : ",").append(type);
        }
        return text.append(")").toString();
    }

    private static void face() {
        Due.yes(Modifier.isFinal(LeverCurtain.class.getModifiers()), "the class is final");
        Due.yes(Modifier.isPublic(LeverCurtain.class.getModifiers()), "the class is public");
        TreeSet<String> shown = new TreeSet<>();
        for (Method method : LeverCurtain.class.getDeclaredMethods()) {
            if (isShown(method)) {
                shown.add(text(method));
                Due.is(Modifier.PUBLIC, method.getModifiers(), "modifiers of " + method);
            }
        }
        TreeSet<String> want = new TreeSet<>(Arrays.asList(FACE));
        Due.yes(want.equals(shown), "the face");
        want.removeAll(shown);
        Due.is(0, want.size(), "missing methods " + want);
        Constructor<?>[] constructors = LeverCurtain.class.getDeclaredConstructors();
        Due.is(1, constructors.length, "constructors");
        Due.yes(Arrays.equals(new Class<?>[] {int.class}, constructors[0].getParameterTypes()), "its parameter");
    }

    private static void constants() {
        Due.is(-1, LeverCurtain.NONE, "NONE");
        Due.is(-100000, LeverCurtain.HIDDEN, "HIDDEN");
        for (Field field : LeverCurtain.class.getDeclaredFields()) {
            boolean constant = field.getName().equals("NONE") || field.getName().equals("HIDDEN");
            Due.is(constant ? 1 : 0, isShown(field) ? 1 : 0, "seen from outside: " + field);
        }
    }

    private static void members() {
        TreeSet<String> names = new TreeSet<>();
        for (String call : FACE) {
            names.add(call.substring(call.indexOf(' ') + 1, call.indexOf('(')));
        }
        checkMembers(LeverCurtain.class, names);
        for (Class<?> inner : LeverCurtain.class.getDeclaredClasses()) {
            Due.yes(Modifier.isStatic(inner.getModifiers()), inner + " is static");
            Due.no(Modifier.isPublic(inner.getModifiers()), inner + " is not public");
            checkMembers(inner, names);
        }
    }

    private static void checkMembers(Class<?> type, TreeSet<String> names) {
        for (Method method : type.getDeclaredMethods()) {
            boolean hidden = Modifier.isPrivate(method.getModifiers());
            Due.no(hidden && names.contains(method.getName()), "a name of the face is borne by " + method);
        }
        for (Field field : type.getDeclaredFields()) {
            boolean still = !Modifier.isStatic(field.getModifiers()) || Modifier.isFinal(field.getModifiers());
            Due.yes(still, "no static state: " + field);
        }
    }

    /** Wild arguments only: what comes about by them is chance, but nothing may throw. */
    private static void wildCalls() throws Exception {
        Random random = new Random(5);
        Method[] methods = Arrays.stream(LeverCurtain.class.getDeclaredMethods())
            .filter(FaceTest::isShown).sorted((a, b) -> a.getName().compareTo(b.getName())).toArray(Method[]::new);
        for (int run = 0; run < 400; run++) {
            LeverCurtain x = new LeverCurtain(WILD[random.nextInt(WILD.length)]);
            int small = 4 + random.nextInt(WILD.length - 3);
            int levers = x.count(7);
            for (int i = 0; i < 510; i++) {
                Method method = methods[random.nextInt(methods.length)];
                Object[] given = new Object[method.getParameterCount()];
                for (int j = 0; j < given.length; j++) {
                    int value = WILD[random.nextInt(random.nextInt(4) == 0 ? WILD.length : small)];
                    boolean wide = method.getParameterTypes()[j] == long.class;
                    given[j] = wide ? (Object) (value * 0x100000001L) : (Object) value;
                }
                try {
                    method.invoke(x, given);
                } catch (java.lang.reflect.InvocationTargetException e) {
                    Due.yes(false, method.getName() + Arrays.toString(given) + " threw " + e.getCause());
                }
            }
            Due.is(levers, x.count(7), "the levers of run " + run);
        }
    }
}
