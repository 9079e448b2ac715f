import java.util.Random;

/** Promises 10 to 17: the TAPE, LAWS, MACHINES and their VOTERS. */
public final class LawTest {
    private static final int NONE = LeverCurtain.NONE;

    public static void main(String[] args) {
        feeding();
        ending();
        faults();
        deepFaults();
        randomFaults();
        laws();
        machines();
        worths();
        randomWorths();
        uses();
        agreeing();
        Due.end();
    }

    private static int bytes(String four) {
        return four.charAt(0) << 24 | four.charAt(1) << 16 | four.charAt(2) << 8 | four.charAt(3);
    }

    private static void feeding() {
        LeverCurtain x = new LeverCurtain(2);
        Due.is(0, x.feed(0, 0, 0, 0, 0), "feed of nothing");
        Due.is(4, x.feed(bytes("y:s+"), 0, 0, 0, 0), "feed of four");
        Due.is(6, x.feed(0, '[', 0, '1' << 16, 0), "bytes of 0 between");
        Due.is(6, x.fault(), "the law is open behind its number");
        Due.is(7, x.feed(0, 0, 0, 0, ']'), "feed of the last byte");
        Due.is(NONE, x.fault(), "the bytes stand in their order");
        LeverCurtain y = new LeverCurtain(2);
        int full = 0x01010101;
        for (int i = 1; i <= 5; i++) {
            Due.is(20 * i, y.feed(full, full, full, full, full), "feed");
        }
        Due.is(119, y.feed(full, full, full, full, 0x00010101), "feed of nineteen");
        Due.is(NONE, y.feed(0, 0, 0, 0, 0x00010001), "feed of two more");
        Due.is(119, y.count(5), "nothing of it came");
        Due.is(120, y.feed(0, 0, 0, 0, -1 << 24), "the last byte");
        Due.is(NONE, y.feed(0, 0, 1, 0, 0), "feed above 120");
        Due.is(120, y.feed(0, 0, 0, 0, 0), "feed of nothing on a full tape");
        Due.is(0, y.fault(), "a byte that no law begins with");
        y.end(119);
        for (int number = 0; number < 5; number++) {
            int[] n = new int[5];
            n[number] = 0x01000001;
            Due.is(NONE, y.feed(n[0], n[1], n[2], n[3], n[4]), "two more in number " + number);
        }
    }

    private static void ending() {
        LeverCurtain x = new LeverCurtain(2);
        Due.yes(x.end(0), "end(0) of an empty tape");
        Due.no(x.end(1), "end(1) of an empty tape");
        Due.tape(x, "y:1;");
        Due.no(x.end(-1), "end(-1)");
        Due.no(x.end(5), "end(5) of four");
        Due.is(4, x.count(5), "still four");
        Due.yes(x.end(4), "end(4) of four");
        Due.is(4, x.fault(), "fault with the last sign");
        Due.yes(x.end(3), "end(3)");
        Due.is(NONE, x.fault(), "fault without it");
        Due.is(4, x.feed('2', 0, 0, 0, 0), "feed behind the end");
        Due.is(NONE, x.fault(), "fault of 12");
    }

    private static void fault(String text, int want) {
        LeverCurtain x = new LeverCurtain(2);
        Due.tape(x, text);
        Due.is(want, x.fault(), "fault of «" + text + "»");
        Due.is(text.length(), x.count(5), "bytes behind fault of «" + text + "»");
    }

    private static void faults() {
        fault("", 0);
        fault("  ", 2);
        fault("x", 0);
        fault("Y:1", 0);
        fault("y 1", 2);
        fault("y:", 2);
        fault("y:1", NONE);
        fault(" y : 1 ", NONE);
        fault("y\t:1", 1);
        fault("y:1234", NONE);
        fault("y:12345", 6);
        fault("y:0000", NONE);
        fault("y:00000", 6);
        fault("y:1 2", 4);
        fault("y:12 ", NONE);
        fault("y:s", NONE);
        fault("y:sx", 3);
        fault("y:1s", 3);
        fault("y:s1", 3);
        fault("y:q", 2);
        fault("y:-1", 2);
        fault("y:1+", 4);
        fault("y:1+-1", 4);
        fault("y:1+2-3*4/5", NONE);
        fault("y:[1]", NONE);
        fault("y:[1", 4);
        fault("y:[1)", 4);
        fault("y:[]", 3);
        fault("y:[1=2]?3", 4);
        fault("y:1]", 3);
        fault("y:(1)", 4);
        fault("y:(1=1)", 7);
        fault("y:(1=1)?2", NONE);
        fault("y:(1=1)=1", 7);
        fault("y:(1=1]?1", 6);
        fault("y:(1=1", 6);
        fault("y:[1]=1?2", NONE);
        fault("y:[(1]", 3);
        fault("y:1=1", 5);
        fault("y:1=1;", 5);
        fault("y:1=1?", 6);
        fault("y:1=1?1", NONE);
        fault("y:1=1=1?1", 5);
        fault("y:1==1", 4);
        fault("y:1?1", 3);
        fault("y:1&1", 3);
        fault("y:1|1=1?1", 3);
        fault("y:1=1&1=2|1>2&!1<3?4", NONE);
        fault("y:1=1&1?4", 7);
        fault("y:1=1?2=3", 7);
        fault("y:1=1?2?3", 7);
        fault("y:1=1?2&", 7);
        fault("y:!1", 4);
        fault("y:!1=1", 6);
        fault("y:!1=1?1", NONE);
        fault("y:!!1=1?1", NONE);
        fault("y:!?", 3);
        fault("y:1=!1", 4);
        fault("y:1;y:2", NONE);
        fault("y:1;", 4);
        fault("y:1;;", 4);
        fault("y:1;x", 4);
        fault("y:1;y", 5);
        fault("y:1 ; y : 2 ; y : s < 3 ? 4", NONE);
        fault("y:1,y:2", 3);
        fault("y:1=1 ? (1)", 8);
        fault("y:1\u00ff", 3);
    }

    private static void deepFaults() {
        fault("y:[[[[[[1]]]]]]", NONE);
        fault("y:[[[[[[[1]]]]]]]", 8);
        fault("y:((((((1=1))))))?1", NONE);
        fault("y:(((((((1=1)))))))?1", 8);
        fault("y:!!!!!!1=1?1", NONE);
        fault("y:1=1?[[[[[[[1]]]]]]]", 12);
        fault("y:1=[[[[[[[1]]]]]]]?1", 10);
        fault("y:!!!!!!!1=1?1", 8);
        fault("y:!(!([[1]]=2))?1", NONE);
        fault("y:!(!([[[1]]]=2))?1", 8);
        fault("y:!(!([[1]]=[[3]]))?1", NONE);
        fault("y:!(!([[1]]=[[[3]]]))?1", 14);
        fault("y:!!!!!!1=1&!!!!!!1=1|!!!!!![1]", 28);
        fault("y:[[[[[[1]]]]]]+[[[[[[2]]]]]]*[[[[[[3]]]]]]", NONE);
        fault("y:!!!!!!1=1?[[[[[[1]]]]]];y:((((((1=1))))))?1", NONE);
        fault("y:!!!1=1&((((((2=2))))))?1", NONE);
        fault("y:!!!(2=2&((((2=2))))?1", 12);
        fault("y:" + "1+".repeat(58) + "11", NONE);
        fault("y:1;".repeat(29) + "y:12", NONE);
        fault("y:1;".repeat(30), 120);
        fault("y:" + "!s=1&".repeat(23) + "s=1", 120);
    }

    private static void randomFaults() {
        Random random = new Random(7);
        for (int i = 0; i < 6000; i++) {
            String text = new RandomLaw(random).text(60);
            LeverCurtain x = new LeverCurtain(2);
            Due.tape(x, text);
            Due.is(NONE, x.fault(), "fault of «" + text + "»");
            for (int j = 0; j < 4; j++) {
                text = RandomLaw.spoiled(random, text);
                Due.tape(x, text);
                Due.is(PlainLaw.fault(text), x.fault(), "fault of «" + text + "»");
            }
        }
    }

    private static void laws() {
        LeverCurtain x = new LeverCurtain(2);
        Due.tape(x, "y:");
        Due.is(NONE, x.law(), "law with a fault");
        Due.is(2, x.count(5), "the tape stays");
        Due.is(0, x.count(2), "no law came");
        for (int law = 0; law < 4; law++) {
            Due.tape(x, "y:" + law);
            Due.is(law, x.law(), "law " + law);
            Due.is(0, x.count(5), "the tape is empty then");
        }
        Due.tape(x, "y:4");
        Due.is(NONE, x.law(), "a fifth law");
        Due.is(3, x.count(5), "the tape stays");
        Due.is(4, x.count(2), "four laws");
    }

    private static void machines() {
        LeverCurtain x = new LeverCurtain(2);
        for (int book = 0; book < 5; book++) {
            int[] b = {999, 999, 999, 999, 999};
            b[book] = 1000;
            Due.is(NONE, x.machine(b[0], b[1], b[2], b[3], b[4]), "book " + book + " of 1000");
            b[book] = -1;
            Due.is(NONE, x.machine(b[0], b[1], b[2], b[3], b[4]), "book " + book + " below 0");
        }
        Due.is(0, x.machine(999, 999, 999, 999, 999), "a machine with the greatest books");
        Due.is(1, x.machine(0, 0, 0, 0, 0), "a machine with the least books");
        for (int machine = 2; machine < 6; machine++) {
            Due.is(machine, x.machine(machine, 0, 0, 0, 0), "machine " + machine);
        }
        Due.is(NONE, x.machine(1, 1, 1, 1, 1), "a seventh machine");
        Due.is(999, x.voters(0), "voters(0)");
        Due.is(0, x.voters(1), "voters(1)");
        Due.is(5, x.voters(5), "voters(5)");
        Due.is(NONE, x.voters(6), "voters of no machine");
        Due.is(NONE, x.voters(-1), "voters of no machine");
    }

    /** VOTERS with the books 60, 7, 5, 3, 2. */
    private static void worth(String text, int want) {
        LeverCurtain x = new LeverCurtain(2);
        x.machine(60, 7, 5, 3, 2);
        Due.tape(x, text);
        Due.is(0, x.law(), "law «" + text + "»");
        Due.yes(x.use(0), "use of it");
        Due.is(want, x.voters(0), "voters by «" + text + "»");
    }

    private static void worths() {
        worth("y:s", 60);
        worth("y:x", 7);
        worth("y:f", 5);
        worth("y:w", 3);
        worth("y:p", 2);
        worth("y:s-x-f", 48);
        worth("y:s-[x-f]", 58);
        worth("y:s-x+f", 58);
        worth("y:x*f+w", 38);
        worth("y:x+f*w", 22);
        worth("y:s/x*x", 56);
        worth("y:x*s/8", 52);
        worth("y:s/f/w", 4);
        worth("y:100-x*f/w", 89);
        worth("y:1-2", 0);
        worth("y:1-2+30", 29);
        worth("y:[1-8]/2+10", 7);
        worth("y:[1-8]/[0-2]", 3);
        worth("y:s/0", 0);
        worth("y:9+s/[x-7]", 9);
        worth("y:999", 999);
        worth("y:1000", 999);
        worth("y:0123", 123);
        worth("y:9999*9999/9999", 100);
        worth("y:9999*9999*9999/5000", 200);
        worth("y:[0-9999*9999]/5000+201", 1);
        worth("y:0-9999*9999-9999*9999+9999*100+500", 400);
        worth("y:9999*9999-9999*9999+7", 7);
        worth("y:9999*100+9999-9999*100+0-9999", 0);
        worth("y:9999*100+100-9999*100", 100);
        worth("y:9999*100+999-9999*100", 100);
        worth("y:s=60?1;y:2", 1);
        worth("y:s=61?1;y:2", 2);
        worth("y:s>60?1;y:2", 2);
        worth("y:s>59?1;y:2", 1);
        worth("y:s<60?1;y:2", 2);
        worth("y:s<61?1;y:2", 1);
        worth("y:s<0?1", 0);
        worth("y:s<0?1;y:s<1?2;y:s<61?3;y:4", 3);
        worth("y:1;y:2", 1);
        worth("y:!s=60?1;y:2", 2);
        worth("y:!!s=60?1;y:2", 1);
        worth("y:!!!s=60?1;y:2", 2);
        worth("y:!s=1?1;y:2", 1);
        worth("y:s=1&s=60|s=60?1;y:2", 1);
        worth("y:s=60|s=60&s=1?1;y:2", 1);
        worth("y:s=1&(s=60|s=60)?1;y:2", 2);
        worth("y:(s=60|s=60)&s=1?1;y:2", 2);
        worth("y:s=1|s=2|s=60?1;y:2", 1);
        worth("y:s=1|s=60&x=7&f=5?1;y:2", 1);
        worth("y:s=1|s=60&x=7&f=6?1;y:2", 2);
        worth("y:!s=60&x=7?1;y:2", 2);
        worth("y:!(s=60&x=8)?1;y:2", 1);
        worth("y:!s=60|x=7?1;y:2", 1);
        worth("y:s+x*f=95?1;y:2", 1);
        worth("y:95=[s+x*f]?1;y:2", 1);
        worth("y:[s-60]/x<1&[0-x]/4=0-1?1;y:2", 1);
        worth(" y : s = 60 ? 12 + 1 ; y : 2 ", 13);
    }

    private static void randomWorths() {
        Random random = new Random(11);
        for (int i = 0; i < 6000; i++) {
            String text = new RandomLaw(random).text(80);
            int[] books = new int[5];
            for (int book = 0; book < 5; book++) {
                books[book] = random.nextInt(random.nextBoolean() ? 1000 : 12);
            }
            LeverCurtain x = new LeverCurtain(2);
            x.machine(books[0], books[1], books[2], books[3], books[4]);
            Due.tape(x, text);
            x.law();
            x.use(0);
            long want = Math.max(0, Math.min(999, PlainLaw.worth(text, books)));
            Due.is(want, x.voters(0), "voters by «" + text + "» of " + java.util.Arrays.toString(books));
        }
    }

    private static void uses() {
        LeverCurtain x = new LeverCurtain(2);
        Due.yes(x.use(NONE), "use of none");
        Due.no(x.use(0), "use of no law");
        Due.no(x.use(-2), "use(-2)");
        x.machine(10, 1, 0, 0, 9);
        Due.tape(x, "y:s-x");
        x.law();
        Due.is(10, x.voters(0), "a law that is not in use");
        Due.yes(x.use(0), "use(0)");
        Due.is(9, x.voters(0), "voters by it");
        x.machine(20, 1, 0, 0, 9);
        Due.is(19, x.voters(1), "voters of a machine that comes later");
        Due.no(x.use(1), "use of no law");
        Due.is(0, x.count(6), "the law in use stays");
        Due.is(9, x.voters(0), "voters stay");
        Due.yes(x.use(NONE), "use of none again");
        Due.is(NONE, x.count(6), "no law in use");
        Due.is(10, x.voters(0), "voters as signed");
        Due.is(20, x.voters(1), "voters as signed");
    }

    private static void agreeing() {
        LeverCurtain x = new LeverCurtain(2);
        x.machine(10, 3, 1, 2, 7);
        x.machine(8, 0, 0, 0, 0);
        x.machine(999, 999, 0, 0, 999);
        Due.is(0, x.agree(0), "agree with no law");
        String[] laws = {"y:s-x", "y:s", "y:s=10?7;y:0-5", "y:s+x"};
        for (String law : laws) {
            Due.tape(x, law);
            x.law();
        }
        Due.is(0b0101, x.agree(0), "agree(0)");
        Due.is(0b0100, x.agree(1), "agree(1): below 0 is 0");
        Due.is(0b1010, x.agree(2), "agree(2): above 999 is 999");
        x.use(1);
        Due.is(0b0101, x.agree(0), "agree whatever is in use");
        Due.is(NONE, x.agree(3), "agree of no machine");
        Due.is(NONE, x.agree(-1), "agree of no machine");
    }
}
