/**
 * The boundaries of the Terms 2 and of promises 10 to 17: the value just within each and the one just outside
 * it, the empty and the full one. The number before each text is that of the promise.
 */
public final class LawEdgeTest {
    private static final int NONE = LeverCurtain.NONE;
    private static final String FULL = "y:1" + "+1".repeat(58) + " ";

    public static void main(String[] args) {
        feedHighestFirst();
        feedLeavesOutZeros();
        feedOfAllBytes();
        feedUpTo120();
        feedRefusedWhole();
        endWithin();
        endCutsOff();
        faultOfEmpty();
        faultOfEmptied();
        faultOfShortened();
        faultOfEachPrefix();
        faultOfEachByte();
        fifthDigit();
        blanksBetween();
        seventhWithin();
        withinOneAnotherOnly();
        clausesWithConditions();
        faultOfLongTexts();
        lawRefused();
        lawsFour();
        lawsOfFullLength();
        useOfNone();
        books();
        machinesSix();
        voters();
        votersWithin();
        signsWithin();
        divided();
        compared();
        firstThatHolds();
        truthsAndUnits();
        agreeing();
        Due.end();
    }

    private static int four(String text) {
        return text.charAt(0) << 24 | text.charAt(1) << 16 | text.charAt(2) << 8 | text.charAt(3);
    }

    /** The TAPE was fed with this text, byte by byte as it stands here. */
    private static void holds(LeverCurtain x, String text, String what) {
        Due.is(text.length(), x.count(5), what + ": bytes");
        Due.yes(x.read(0, 0), what + ": read");
        Due.tape(x, text);
        Due.is(x.count(8), x.known(), what + ": known");
        Due.is(0, x.far(0, 0, x.count(8) - 1), what + ": the bytes are these");
    }

    private static void feedHighestFirst() {
        LeverCurtain x = new LeverCurtain(2);
        Due.is(8, x.feed(four("abcd"), four("efgh"), 0, 0, 0), "10: two numbers");
        holds(x, "abcdefgh", "10: the highest first");
        x.end(0);
        Due.is(5, x.feed('v', 'w', 'x', 'y', 'z'), "10: one byte of each number");
        holds(x, "vwxyz", "10: number by number");
        x.end(0);
        Due.is(4, x.feed(0, 0, 0, 0, four("last")), "10: the last number alone");
        holds(x, "last", "10: the last number");
        x.end(0);
        Due.is(1, x.feed('a', 0, 0, 0, 0), "10: one");
        Due.is(2, x.feed('b', 0, 0, 0, 0), "10: one more");
        Due.is(4, x.feed(0, 'c' << 24 | 'd', 0, 0, 0), "10: two more");
        holds(x, "abcd", "10: those that come later stand behind");
    }

    private static void feedLeavesOutZeros() {
        LeverCurtain x = new LeverCurtain(2);
        Due.is(0, x.feed(0, 0, 0, 0, 0), "10: zeros alone");
        Due.is(2, x.feed('a' << 24 | 'b' << 8, 0, 0, 0, 0), "10: zeros behind and between");
        Due.is(4, x.feed(0, 'c' << 16 | 'd', 0, 0, 0), "10: zeros before and between");
        Due.is(5, x.feed(0, 0, 'e' << 24, 0, 0), "10: zeros behind");
        Due.is(7, x.feed('f', 0, 0, 0, 'g'), "10: zeros between numbers");
        holds(x, "abcdefg", "10: none of them is there");
    }

    /** Each byte 1 to 255 counts for one, in each of the four places of a number. */
    private static void feedOfAllBytes() {
        for (int value = 1; value < 256; value++) {
            LeverCurtain x = new LeverCurtain(2);
            for (int place = 0; place < 4; place++) {
                Due.is(place + 1, x.feed(0, 0, value << 8 * place, 0, 0), "10: byte " + value + " in place " + place);
            }
        }
        LeverCurtain x = new LeverCurtain(2);
        Due.is(4, x.feed(-1, 0, 0, 0, 0), "10: four bytes of 255");
        Due.is(5, x.feed(Integer.MIN_VALUE, 0, 0, 0, 0), "10: one byte of 128");
        Due.is(9, x.feed(Integer.MAX_VALUE, 0, 0, 0, 0), "10: 127 and three of 255");
    }

    private static LeverCurtain taped(int bytes) {
        LeverCurtain x = new LeverCurtain(2);
        Due.tape(x, FULL.substring(0, bytes));
        return x;
    }

    private static void feedUpTo120() {
        int one = '+' << 8;
        Due.is(120, taped(119).feed(0, one, 0, 0, 0), "10: the 120th byte");
        Due.is(NONE, taped(120).feed(0, one, 0, 0, 0), "10: a 121st byte");
        Due.is(120, taped(120).feed(0, 0, 0, 0, 0), "10: nothing more");
        Due.is(120, taped(100).feed(-1, -1, -1, -1, -1), "10: twenty more than 100");
        Due.is(NONE, taped(101).feed(-1, -1, -1, -1, -1), "10: twenty more than 101");
        Due.is(120, taped(101).feed(-1, -1, -1, -1, 0x00ffffff), "10: nineteen more than 101");
        Due.is(120, taped(101).feed(0x00ffffff, -1, -1, -1, -1), "10: nineteen more, the first number short");
        Due.is(NONE, taped(119).feed(1, 0, 0, 0, 1), "10: two more than 119");
        Due.is(NONE, taped(117).feed(-1, 0, 0, 0, 0), "10: four more than 117");
        Due.is(120, taped(116).feed(-1, 0, 0, 0, 0), "10: four more than 116");
    }

    private static void feedRefusedWhole() {
        LeverCurtain x = taped(119);
        Due.is(NONE, x.fault(), "10: a law of 119 bytes");
        Due.is(NONE, x.feed('+' << 8 | '1', 0, 0, 0, 0), "10: two more");
        Due.is(119, x.count(5), "10: not even one came");
        Due.is(NONE, x.fault(), "10: the law is as it was");
        Due.is(120, x.feed(' ', 0, 0, 0, 0), "10: one more");
        Due.is(NONE, x.fault(), "10: a law of 120 bytes");
        Due.is(NONE, x.feed('1', 0, 0, 0, 0), "10: one more than 120");
        Due.is(NONE, x.fault(), "10: the law is as it was");
        Due.is(0, x.law(), "13: a law of 120 bytes");
    }

    private static void endWithin() {
        LeverCurtain x = new LeverCurtain(2);
        Due.yes(x.end(0), "11: 0 of none");
        Due.no(x.end(1), "11: 1 of none");
        Due.no(x.end(-1), "11: -1 of none");
        Due.tape(x, FULL);
        int[] wrong = {121, -1, Integer.MIN_VALUE, Integer.MAX_VALUE};
        for (int n : wrong) {
            Due.no(x.end(n), "11: " + n + " of 120");
            Due.is(120, x.count(5), "11: all stand");
        }
        Due.yes(x.end(120), "11: 120 of 120");
        Due.is(120, x.count(5), "11: all stand");
        Due.yes(x.end(119), "11: 119 of 120");
        Due.no(x.end(120), "11: 120 of 119");
        Due.is(119, x.count(5), "11: 119 stand");
        Due.yes(x.end(1), "11: 1 of 119");
        Due.is(1, x.count(5), "11: one stands");
        Due.yes(x.end(0), "11: 0 of 1");
        Due.is(0, x.count(5), "11: none stands");
    }

    private static void endCutsOff() {
        LeverCurtain x = new LeverCurtain(2);
        Due.tape(x, "abcdef");
        Due.yes(x.end(2), "11: the first two");
        Due.is(4, x.feed(0, 0, 0, 'x' << 8 | 'y', 0), "10: two more");
        holds(x, "abxy", "11: what was cut off is gone");
    }

    private static void fault(String text, int want) {
        LeverCurtain x = new LeverCurtain(2);
        Due.tape(x, text);
        Due.is(want, x.fault(), "12: fault of «" + text + "»");
        Due.is(want, x.fault(), "12: fault again of «" + text + "»");
        Due.is(want == NONE ? 0 : NONE, x.law(), "13: law of «" + text + "»");
        Due.is(want == NONE ? 0 : text.length(), x.count(5), "13: the tape behind law of «" + text + "»");
        Due.is(want == NONE ? 1 : 0, x.count(2), "13: laws behind law of «" + text + "»");
    }

    private static void faultOfEmpty() {
        fault("", 0);
        fault(" ", 1);
        fault("   ", 3);
    }

    /** What a TAPE held before it was emptied counts no more. */
    private static void faultOfEmptied() {
        LeverCurtain x = new LeverCurtain(2);
        Due.tape(x, "y:1");
        Due.yes(x.end(0), "11: end");
        Due.is(0, x.fault(), "12: emptied by end");
        Due.is(NONE, x.law(), "13: emptied by end");
        Due.tape(x, "y:1");
        Due.is(0, x.law(), "13: a law");
        Due.is(0, x.fault(), "12: emptied by law");
        Due.is(NONE, x.law(), "13: emptied by law");
        Due.tape(x, "yes");
        Due.is(0, x.known(), "34: a name");
        Due.is(0, x.fault(), "12: emptied by known");
        Due.is(NONE, x.known(), "34: emptied by known");
        Due.tape(x, "yes");
        Due.yes(x.read(0, 0), "35: a reading");
        Due.is(0, x.fault(), "12: emptied by read");
        Due.no(x.read(1, 0), "35: emptied by read");
    }

    private static void faultOfShortened() {
        LeverCurtain x = new LeverCurtain(2);
        x.machine(9, 0, 0, 0, 0);
        Due.tape(x, "y:123+4");
        Due.is(NONE, x.fault(), "12: the whole");
        Due.yes(x.end(4), "11: end");
        Due.is(NONE, x.fault(), "12: shortened");
        Due.is(0, x.law(), "13: shortened");
        x.use(0);
        Due.is(12, x.voters(0), "16: by the shortened one");
        Due.tape(x, "y:s=1?5;y:77777");
        Due.is(14, x.fault(), "12: a fifth digit");
        Due.yes(x.end(13), "11: end");
        Due.is(NONE, x.fault(), "12: shortened");
        Due.yes(x.end(8), "11: end");
        Due.is(8, x.fault(), "12: ended too early");
        Due.yes(x.end(7), "11: end");
        Due.is(NONE, x.fault(), "12: shortened");
    }

    /** Each prefix of these is the beginning of a LAW: ended too early, but for those told by their lengths. */
    private static void faultOfEachPrefix() {
        prefixes("y:s", 3);
        prefixes("y:s-x*2", 3, 5, 7);
        prefixes(" y : 12 ", 6, 7, 8);
        prefixes("y:[s]", 5);
        prefixes("y:[s+[12-x]]/p", 12, 14);
        prefixes("y:s=1?2", 3, 7);
        prefixes("y:s + 1 > f ?2", 3, 4, 7, 8, 14);
        prefixes("y:!(s=1|[x]<2&!3>4)?5*[p]", 21, 25);
        prefixes("y:((s=1))?w;y:f", 11, 15);
        prefixes("y:1;y:2;y:3", 3, 7, 11);
        prefixes("y:1=2|3=4?5", 3, 11);
        prefixes("y:1234", 3, 4, 5, 6);
    }

    private static void prefixes(String text, int... laws) {
        for (int length = 0; length <= text.length(); length++) {
            int want = length;
            for (int law : laws) {
                want = law == length ? NONE : want;
            }
            fault(text.substring(0, length), want);
        }
    }

    /** Behind each of these the bytes that can go on are told; all others are the FAULT. */
    private static void faultOfEachByte() {
        follows("", "y ");
        follows("y", ": ");
        follows("y:", "sxfwp0123456789[(! ");
        follows("y:s", "+-*/=<>; ");
        follows("y:s ", "+-*/=<>; ");
        follows("y:1", "0123456789+-*/=<>; ");
        follows("y:1234", "+-*/=<>; ");
        follows("y:1 ", "+-*/=<>; ");
        follows("y:1+", "sxfwp0123456789[ ");
        follows("y:1*", "sxfwp0123456789[ ");
        follows("y:[", "sxfwp0123456789[ ");
        follows("y:[1", "0123456789+-*/] ");
        follows("y:[s", "+-*/] ");
        follows("y:[s]", "+-*/=<>; ");
        follows("y:s=", "sxfwp0123456789[ ");
        follows("y:s=x", "+-*/&|? ");
        follows("y:s=x&", "sxfwp0123456789[(! ");
        follows("y:s=x|", "sxfwp0123456789[(! ");
        follows("y:s=x&1", "0123456789+-*/=<> ");
        follows("y:s=x&s", "+-*/=<> ");
        follows("y:s=x?", "sxfwp0123456789[ ");
        follows("y:s=x?s", "+-*/; ");
        follows("y:!", "sxfwp0123456789[(! ");
        follows("y:!s", "+-*/=<> ");
        follows("y:!s=x", "+-*/&|? ");
        follows("y:(", "sxfwp0123456789[(! ");
        follows("y:(s", "+-*/=<> ");
        follows("y:(s=x", "+-*/&|) ");
        follows("y:(s=x)", "&|? ");
        follows("y:s;", "y ");
        follows("y:s;y", ": ");
        follows("y:s;y:", "sxfwp0123456789[(! ");
        follows("y:s=[1", "0123456789+-*/] ");
        follows("y:[[[[[[", "sxfwp0123456789 ");
        follows("y:((((((", "sxfwp0123456789 ");
        follows("y:!!!!!!", "sxfwp0123456789 ");
        follows("y:([!", "");
    }

    private static void follows(String text, String can) {
        LeverCurtain x = new LeverCurtain(2);
        int calls = 0;
        for (int sign = 1; sign < 256; sign++) {
            if (calls > 480) {
                x = new LeverCurtain(2);
                calls = 0;
            }
            Due.yes(x.end(0), "11: end");
            for (int i = 0; i < text.length(); i++) {
                x.feed(text.charAt(i), 0, 0, 0, 0);
            }
            x.feed(sign, 0, 0, 0, 0);
            calls += 3 + text.length();
            int fault = x.fault();
            int first = PlainLaw.fault(text);
            boolean goesOn = fault == NONE || fault == text.length() + 1;
            boolean broken = first != NONE && first < text.length();
            boolean want = !broken && can.indexOf(sign) >= 0;
            Due.is(want ? 1 : 0, goesOn ? 1 : 0, "12: byte " + sign + " behind «" + text + "» goes on");
            if (!want) {
                Due.is(broken ? first : text.length(), fault, "12: fault of byte " + sign + " behind «" + text + "»");
            }
        }
    }

    private static void fifthDigit() {
        fault("y:1234", NONE);
        fault("y:12345", 6);
        fault("y:123456", 6);
        fault("y:00000", 6);
        fault("y:0000", NONE);
        fault("y:9999", NONE);
        fault("y:s+12345", 8);
        fault("y:1234+1234", NONE);
        fault("y:[12345]", 7);
        fault("y:12345=1?2", 6);
        fault("y:1=12345?2", 8);
        fault("y:1=2?12345", 10);
        fault("y:1;y:12345", 10);
        fault("y:1234 5", 7);
    }

    private static void blanksBetween() {
        fault(" y:1", NONE);
        fault("y :1", NONE);
        fault("y: 1", NONE);
        fault("y:1 ", NONE);
        fault("y:1  +  2", NONE);
        fault(" y : ! ( s = [ 1 ] & x < 2 | p > 3 ) ? f * 4 / w ; y : 5 - 6 ", NONE);
        fault("y:1 2", 4);
        fault("y:12 34", 5);
        fault("y:1  2", 5);
        fault("y:1= 1 2?3", 7);
        fault("y:\t1", 2);
        fault("y:\n1", 2);
        fault("y:1\u00a0", 3);
        fault("y:1\u001f", 3);
        fault("y:1!", 3);
        fault("   ", 3);
        fault("y:1;  ", 6);
    }

    private static String deep(String opens, String inner, String closes) {
        return "y:" + opens + inner + closes;
    }

    private static void seventhWithin() {
        for (int many = 1; many <= 9; many++) {
            int want = many <= 6 ? NONE : 8;
            fault(deep("[".repeat(many), "s", "]".repeat(many)), want);
            fault(deep("(".repeat(many), "s=1", ")".repeat(many) + "?2"), want);
            fault(deep("!".repeat(many), "s=1", "?2"), want);
            fault(deep("s=" + "[".repeat(many), "1", "]".repeat(many) + "?2"), want == NONE ? NONE : 10);
            fault(deep("s=1?" + "[".repeat(many), "1", "]".repeat(many)), want == NONE ? NONE : 12);
            fault(deep("1;y:" + "[".repeat(many), "1", "]".repeat(many)), want == NONE ? NONE : 12);
        }
        fault("y:!(!([[s]]=1))?2", NONE);
        fault("y:!(!([[[s]]]=1))?2", 8);
        fault("y:(!(!(!s=1)))?2", NONE);
        fault("y:(!(!(!!s=1)))?2", 8);
        fault("y:(!(!(!(s=1))))?2", 8);
        fault("y:(!(!(![s]=1)))?2", 8);
        fault("y:!!!!!(s=1)?2", NONE);
        fault("y:!!!!!([s]=1)?2", 8);
        fault("y:(((((![s]=1)))))?2", 8);
        fault("y:(((((s=[1])))))?2", NONE);
        fault("y:(((((s=[[1]])))))?2", 10);
    }

    /** Those beside one another do not count, nor those that are shut already. */
    private static void withinOneAnotherOnly() {
        fault("y:[1]+[1]+[1]+[1]+[1]+[1]+[1]+[1]", NONE);
        fault("y:[[[[[[1]]]]]]+[[[[[[1]]]]]]", NONE);
        fault("y:[[[[[[1]]]]]+[1]]", NONE);
        fault("y:[[[[[[1]]]+[[[1]]]]]]", NONE);
        fault("y:[[[[[[1]]]+[[[[1]]]]]]]", 16);
        fault("y:(1=1)&(1=1)&(1=1)&(1=1)&(1=1)&(1=1)&(1=1)?1", NONE);
        fault("y:!1=1&!1=1&!1=1&!1=1&!1=1&!1=1&!1=1?1", NONE);
        fault("y:!!!!!!1=1|!!!!!!1=1?[[[[[[1]]]]]]", NONE);
        fault("y:!!!!!!1=1|!!!!!!!1=1?1", 18);
        fault("y:((((((1=1))))))&((((((1=1))))))?1;y:[[[[[[1]]]]]]", NONE);
        fault("y:((((((1=1)))))&(1=1))?1", NONE);
        fault("y:!(!1=1&!1=1&((((1=1)))))?1", NONE);
        fault("y:!(!1=1&!1=1&(((((1=1))))))?1", 18);
    }

    /** Behind : only ! and ( tell at once that there is a CONDITION; a SUM may be either. */
    private static void clausesWithConditions() {
        fault("y:!s=1", 6);
        fault("y:!s=1;", 6);
        fault("y:(s=1)", 7);
        fault("y:(s=1);", 7);
        fault("y:(s)", 4);
        fault("y:(s+1)*2", 6);
        fault("y:(s=1)+1", 7);
        fault("y:(s=1)=1", 7);
        fault("y:s", NONE);
        fault("y:s?1", 3);
        fault("y:s=1", 5);
        fault("y:s=1;", 5);
        fault("y:s&x=1?1", 3);
        fault("y:[s]=1?1", NONE);
        fault("y:[s=1]?1", 4);
        fault("y:s=1?x=1", 7);
        fault("y:s=1?!x", 6);
        fault("y:s=1?(x)", 6);
        fault("y:s=1?2?3", 7);
        fault("y:s=x=p?1", 5);
        fault("y:s<>x?1", 4);
        fault("y:1;y:2=3", 9);
        fault(";y:1", 0);
        fault("y:1;;y:2", 4);
    }

    private static void faultOfLongTexts() {
        fault(FULL, NONE);
        fault(FULL.substring(0, 118) + "+", 118);
        fault("y:s" + "+s".repeat(58) + "-", 120);
        fault(" ".repeat(120), 120);
        fault(" ".repeat(117) + "y:s", NONE);
        fault(" ".repeat(118) + "y:", 120);
        fault("y:1;".repeat(30), 120);
        fault("y:1;".repeat(29) + "y:12", NONE);
        fault("y:s" + " ".repeat(116) + "x", 119);
        fault("y:" + "!s=1&".repeat(23) + "s=1", 120);
        fault("y:" + "s=1|".repeat(28) + "s=1?12", NONE);
    }

    private static void lawRefused() {
        LeverCurtain x = new LeverCurtain(2);
        Due.is(NONE, x.law(), "13: an empty tape");
        Due.tape(x, "y:s-");
        Due.is(NONE, x.law(), "13: a fault");
        Due.is(4, x.count(5), "13: the tape stays");
        Due.is(5, x.feed('2', 0, 0, 0, 0), "10: what was left out");
        Due.is(0, x.law(), "13: the law is whole");
        Due.is(0, x.count(5), "13: the tape is empty then");
        Due.is(NONE, x.law(), "13: an empty tape again");
        Due.is(1, x.count(2), "13: one law");
        x.machine(9, 0, 0, 0, 0);
        x.use(0);
        Due.is(7, x.voters(0), "13: s less 2");
    }

    private static void lawsFour() {
        LeverCurtain x = new LeverCurtain(2);
        x.machine(9, 0, 0, 0, 0);
        for (int law = 0; law < 4; law++) {
            Due.tape(x, "y:" + (law + 20));
            Due.is(law, x.law(), "13: law " + law);
            Due.is(law + 1, x.count(2), "13: so many laws");
        }
        Due.tape(x, "y:30");
        Due.is(NONE, x.law(), "13: a fifth");
        Due.is(4, x.count(5), "13: the tape stays");
        Due.is(NONE, x.fault(), "12: it has no fault");
        Due.is(4, x.count(2), "13: four laws");
        for (int law = 0; law < 4; law++) {
            Due.yes(x.use(law), "14: use of law " + law);
            Due.is(law + 20, x.voters(0), "16: voters by law " + law);
        }
        Due.no(x.use(4), "14: use of a fifth");
        Due.is(23, x.voters(0), "14: law 3 is in use still");
    }

    /** Four LAWS of 120 bytes each, of which the last byte counts. */
    private static void lawsOfFullLength() {
        LeverCurtain x = new LeverCurtain(2);
        x.machine(9, 0, 0, 0, 0);
        for (int law = 0; law < 4; law++) {
            Due.tape(x, " " + "y:s=1?5;".repeat(14) + "y:s/s*" + (law + 6));
            Due.is(120, x.count(5), "10: a full tape");
            Due.is(law, x.law(), "13: law " + law);
        }
        for (int law = 0; law < 4; law++) {
            x.use(law);
            Due.is(law + 6, x.voters(0), "16: by the last byte of law " + law);
        }
    }

    private static void useOfNone() {
        LeverCurtain x = new LeverCurtain(2);
        x.machine(9, 0, 0, 0, 0);
        Due.is(NONE, x.count(6), "14: none at first");
        Due.is(9, x.voters(0), "16: as signed");
        Due.yes(x.use(NONE), "14: none, where there is none");
        Due.no(x.use(0), "14: the first, where there is none");
        Scene.law(x, "y:3");
        Due.no(x.use(1), "14: the second of one");
        for (int law : new int[] {-2, 1, 4, Integer.MIN_VALUE, Integer.MAX_VALUE}) {
            Due.no(x.use(law), "14: use(" + law + ")");
            Due.is(NONE, x.count(6), "14: none in use still");
        }
        Due.yes(x.use(0), "14: the first of one");
        Due.is(3, x.voters(0), "16: by the law");
        Due.no(x.use(1), "14: the second of one");
        Due.is(0, x.count(6), "14: the first is in use still");
        Due.is(3, x.voters(0), "16: by the law still");
        Due.yes(x.use(0), "14: the same again");
        Due.yes(x.use(NONE), "14: none");
        Due.is(9, x.voters(0), "16: as signed again");
    }

    private static void books() {
        for (int book = 0; book < 5; book++) {
            for (int value : new int[] {Integer.MIN_VALUE, -1, 1000, Integer.MAX_VALUE}) {
                int[] b = {1, 2, 3, 4, 5};
                b[book] = value;
                LeverCurtain x = new LeverCurtain(2);
                Due.is(NONE, x.machine(b[0], b[1], b[2], b[3], b[4]), "15: book " + book + " of " + value);
                Due.is(0, x.count(3), "15: none came");
                Due.is(0, x.machine(1, 2, 3, 4, 5), "15: the first still");
            }
            for (int value : new int[] {0, 1, 998, 999}) {
                int[] b = {1, 2, 3, 4, 5};
                b[book] = value;
                LeverCurtain x = new LeverCurtain(2);
                Due.is(0, x.machine(b[0], b[1], b[2], b[3], b[4]), "15: book " + book + " of " + value);
                Scene.law(x, "y:" + "sxfwp".charAt(book));
                Scene.law(x, "y:" + "sxfwp".charAt((book + 1) % 5));
                x.use(0);
                Due.is(value, x.voters(0), "16: by book " + book);
                x.use(1);
                Due.is(b[(book + 1) % 5], x.voters(0), "16: by the next book");
            }
        }
    }

    private static void machinesSix() {
        LeverCurtain x = new LeverCurtain(2);
        Due.is(NONE, x.voters(0), "16: no machine");
        Due.is(NONE, x.agree(0), "17: no machine");
        for (int machine = 0; machine < 6; machine++) {
            Due.is(machine, x.machine(100 + machine, machine, 0, 0, 100), "15: machine " + machine);
            Due.is(NONE, x.voters(machine + 1), "16: the next is none");
            Due.is(NONE, x.agree(machine + 1), "17: the next is none");
        }
        Due.is(NONE, x.machine(1, 1, 1, 1, 1), "15: a seventh");
        Due.is(6, x.count(3), "15: six");
        Scene.law(x, "y:s-x");
        for (int machine = 0; machine < 6; machine++) {
            Due.is(100 + machine, x.voters(machine), "16: voters of machine " + machine);
            Due.is(1, x.agree(machine), "17: agree of machine " + machine);
        }
        for (int machine : new int[] {Integer.MIN_VALUE, -1, 6, Integer.MAX_VALUE}) {
            Due.is(NONE, x.voters(machine), "16: voters(" + machine + ")");
            Due.is(NONE, x.agree(machine), "17: agree(" + machine + ")");
        }
    }

    /** VOTERS without a LAW in USE are just the signatures. */
    private static void voters() {
        LeverCurtain x = new LeverCurtain(2);
        x.machine(0, 999, 999, 999, 999);
        x.machine(999, 0, 0, 0, 0);
        Due.is(0, x.voters(0), "16: no signature");
        Due.is(999, x.voters(1), "16: as many as can be");
        Scene.law(x, "y:x");
        Due.is(0, x.voters(0), "16: a law that is not in use");
        x.use(0);
        Due.is(999, x.voters(0), "16: by the law");
        Due.is(0, x.voters(1), "16: by the law");
    }

    /** VOTERS by a LAW with the books 60, 7, 5, 3, 2. */
    private static void worth(String text, int want) {
        LeverCurtain x = new LeverCurtain(2);
        x.machine(60, 7, 5, 3, 2);
        Due.tape(x, text);
        Due.is(0, x.law(), "13: law «" + text + "»");
        Due.yes(x.use(0), "14: use of it");
        Due.is(want, x.voters(0), "16: voters by «" + text + "»");
    }

    private static void votersWithin() {
        worth("y:0-1", 0);
        worth("y:0-9999", 0);
        worth("y:0-1000*1000", 0);
        worth("y:0", 0);
        worth("y:1", 1);
        worth("y:998", 998);
        worth("y:999", 999);
        worth("y:1000", 999);
        worth("y:1001", 999);
        worth("y:1000*1000", 999);
    }

    /** Behind each sign: at the bound, one within it and one outside it. What is 1,000,000 then leaves 100. */
    private static void signsWithin() {
        worth("y:9999*100+99-9999*100", 99);
        worth("y:9999*100+100-9999*100", 100);
        worth("y:9999*100+101-9999*100", 100);
        worth("y:9999*100+9999-9999*100", 100);
        worth("y:0-9999*100-99+9999*100+200", 101);
        worth("y:0-9999*100-100+9999*100+200", 100);
        worth("y:0-9999*100-101+9999*100+200", 100);
        worth("y:0-9999*100-9999+9999*100+200", 100);
        worth("y:1000*1000-9999*100", 100);
        worth("y:1001*1000-9999*100", 100);
        worth("y:1001*999-9999*100", 99);
        worth("y:9999*9999-9999*100", 100);
        worth("y:[0-1000]*1000+9999*100+200", 100);
        worth("y:[0-1001]*1000+9999*100+200", 100);
        worth("y:[0-1001]*999+9999*100+200", 101);
        worth("y:1000*[0-1001]+9999*100+200", 100);
        worth("y:[0-1001]*[0-1000]-9999*100", 100);
        worth("y:[1000*1000]*[1000*1000]-9999*100", 100);
        worth("y:[0-1000*1000]*[1000*1000]+9999*100+200", 100);
        worth("y:1000*1000*1000/5000", 200);
        worth("y:[9999*100+9999]/5000", 200);
        worth("y:1000*1000+9999-9999", 999);
        worth("y:1000*1000+1=1000*1000?1;y:2", 1);
        worth("y:1000*1000=999*1001?1;y:2", 2);
        worth("y:0-1000*1000-1=0-1000*1000?1;y:2", 1);
    }

    private static void divided() {
        worth("y:6/7", 0);
        worth("y:7/7", 1);
        worth("y:13/7", 1);
        worth("y:14/7", 2);
        worth("y:[0-6]/7+10", 10);
        worth("y:[0-7]/7+10", 9);
        worth("y:[0-13]/7+10", 9);
        worth("y:6/[0-7]+10", 10);
        worth("y:13/[0-7]+10", 9);
        worth("y:[0-13]/[0-7]+10", 11);
        worth("y:5/0", 0);
        worth("y:5/0+3", 3);
        worth("y:0/0+3", 3);
        worth("y:[0-5]/0+3", 3);
        worth("y:5/[s-60]+3", 3);
        worth("y:5/0*9+3", 3);
        worth("y:5/[1/2]+3", 3);
        worth("y:0/5+3", 3);
        worth("y:8/2/2", 2);
        worth("y:8/[2/2]", 8);
        worth("y:9/2*2", 8);
        worth("y:2*9/2", 9);
        worth("y:10-4-3", 3);
        worth("y:10-[4-3]", 9);
        worth("y:10-4/2", 8);
    }

    private static void compared() {
        worth("y:s<59?1;y:2", 2);
        worth("y:s<60?1;y:2", 2);
        worth("y:s<61?1;y:2", 1);
        worth("y:s>59?1;y:2", 1);
        worth("y:s>60?1;y:2", 2);
        worth("y:s>61?1;y:2", 2);
        worth("y:s=59?1;y:2", 2);
        worth("y:s=60?1;y:2", 1);
        worth("y:s=61?1;y:2", 2);
        worth("y:0-1<0?1;y:2", 1);
        worth("y:0<0-1?1;y:2", 2);
        worth("y:0-1=1?1;y:2", 2);
    }

    private static void firstThatHolds() {
        worth("y:s=1?1", 0);
        worth("y:s=1?1;y:s=2?2;y:s=3?3", 0);
        worth("y:s=1?1;y:s=60?2;y:s=60?3", 2);
        worth("y:s=60?1;y:s=60?2", 1);
        worth("y:4;y:5;y:6", 4);
        worth("y:s=1?4;y:5;y:6", 5);
        worth("y:s=1?4;y:s=60?0;y:6", 0);
        worth("y:s=1?4;y:s=60?0-5;y:6", 0);
        worth("y:s=1?4;y:s=2?5;y:s=3?6;y:7", 7);
    }

    private static void truthsAndUnits() {
        String[] truths = {"s=1", "s=60"};
        for (int a = 0; a < 2; a++) {
            for (int b = 0; b < 2; b++) {
                for (int c = 0; c < 2; c++) {
                    String one = truths[a];
                    String two = truths[b];
                    String three = truths[c];
                    whether(one + "&" + two + "&" + three, a == 1 && b == 1 && c == 1);
                    whether(one + "|" + two + "|" + three, a == 1 || b == 1 || c == 1);
                    whether(one + "|" + two + "&" + three, a == 1 || b == 1 && c == 1);
                    whether(one + "&" + two + "|" + three, a == 1 && b == 1 || c == 1);
                    whether("(" + one + "|" + two + ")&" + three, (a == 1 || b == 1) && c == 1);
                    whether(one + "&(" + two + "|" + three + ")", a == 1 && (b == 1 || c == 1));
                    whether("!" + one + "&" + two + "|" + three, a == 0 && b == 1 || c == 1);
                    whether("!(" + one + "&" + two + "|" + three + ")", !(a == 1 && b == 1 || c == 1));
                    whether("!!" + one + "|!" + two + "&!!!" + three, a == 1 || b == 0 && c == 0);
                }
            }
        }
    }

    private static void whether(String condition, boolean holds) {
        worth("y:" + condition + "?1;y:2", holds ? 1 : 2);
    }

    private static void agreeing() {
        agree("y:s", 100, 100, 1);
        agree("y:s", 100, 99, 0);
        agree("y:s", 100, 101, 0);
        agree("y:s+1", 999, 999, 1);
        agree("y:s+1", 998, 999, 1);
        agree("y:s-1", 0, 0, 1);
        agree("y:s-1", 1, 0, 1);
        agree("y:s-1", 2, 0, 0);
        agree("y:s=1?5", 2, 0, 1);
        LeverCurtain x = new LeverCurtain(2);
        x.machine(50, 0, 0, 0, 50);
        Due.is(0, x.agree(0), "17: no law, though s is p");
        for (int law = 0; law < 4; law++) {
            Scene.law(x, "y:s+" + law + "-" + law);
            Due.is((2 << law) - 1, x.agree(0), "17: all of " + (law + 1));
        }
        x.use(2);
        Due.is(15, x.agree(0), "17: whatever is in use");
        x.machine(51, 0, 0, 0, 50);
        Due.is(0, x.agree(1), "17: none of four");
    }

    private static void agree(String law, int s, int p, int want) {
        LeverCurtain x = new LeverCurtain(2);
        x.machine(s, 0, 0, 0, p);
        Scene.law(x, law);
        Due.is(want, x.agree(0), "17: «" + law + "» of s " + s + ", p " + p);
        Due.is(s, x.voters(0), "16: it is not in use");
    }
}
