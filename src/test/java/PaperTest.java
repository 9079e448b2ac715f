/** Promises 34 to 42: NAMES written in, what HANDS read, who is ELECTED. */
public final class PaperTest {
    private static final int NONE = LeverCurtain.NONE;

    public static void main(String[] args) {
        knowing();
        reading();
        limits();
        distances();
        going();
        agreeing();
        counting();
        written();
        electing();
        Due.end();
    }

    private static void know(LeverCurtain x, String... names) {
        for (String name : names) {
            int before = x.count(8);
            Due.tape(x, name);
            Due.is(before, x.known(), "known «" + name + "»");
        }
    }

    private static void read(LeverCurtain x, int hand, int paper, String text) {
        Due.tape(x, text);
        Due.yes(x.read(hand, paper), "read «" + text + "»");
    }

    private static void knowing() {
        LeverCurtain x = new LeverCurtain(2);
        Due.is(NONE, x.known(), "an empty name");
        for (String text : new String[] {"abcdefghi", "ab.", "Ab", "a b", "a1", "ab{", "`ab", "\u00e9"}) {
            Due.tape(x, text);
            Due.is(NONE, x.known(), "known «" + text + "»");
            Due.is(text.length(), x.count(5), "the tape stays");
        }
        know(x, "abcdefgh", "a", "az", "za");
        Due.is(0, x.count(5), "the tape is empty then");
        for (String text : new String[] {"abcdefgh", "a", "za"}) {
            Due.tape(x, text);
            Due.is(NONE, x.known(), "known again «" + text + "»");
            Due.is(text.length(), x.count(5), "the tape stays");
        }
        know(x, "aza", "z", "abcdefg", "abcdefgi");
        Due.tape(x, "new");
        Due.is(NONE, x.known(), "a ninth name");
        Due.is(8, x.count(8), "eight names");
    }

    private static void reading() {
        LeverCurtain x = new LeverCurtain(2);
        Due.no(x.read(0, 0), "an empty reading");
        for (String text : new String[] {"abcdefghi", "Ab", "a b", "a1", "a-", "a/"}) {
            Due.tape(x, text);
            Due.no(x.read(0, 0), "read «" + text + "»");
            Due.is(text.length(), x.count(5), "the tape stays");
        }
        Due.tape(x, "ab");
        int[][] wrong = {{-1, 0}, {4, 0}, {0, -1}, {0, 30}, {Integer.MIN_VALUE, 0}, {0, Integer.MAX_VALUE}};
        for (int[] pair : wrong) {
            Due.no(x.read(pair[0], pair[1]), "read by " + pair[0] + " of " + pair[1]);
        }
        Due.is(2, x.count(5), "the tape stays");
        Due.is(0, x.papers(0), "nothing is read");
        Due.yes(x.read(3, 29), "read by the last hand of the last paper");
        Due.is(0, x.count(5), "the tape is empty then");
        read(x, 0, 0, "........");
        know(x, "ab", "cd");
        Due.is(0, x.far(3, 29, 0), "far of a name that came later");
        Due.is(2, x.far(3, 29, 1), "far of another that came later");
        read(x, 3, 29, "cdx");
        Due.is(3, x.far(3, 29, 0), "read anew");
        Due.is(1, x.far(3, 29, 1), "read anew");
        read(x, 3, 29, "c");
        Due.is(1, x.far(3, 29, 1), "read anew, shorter");
    }

    private static void limits() {
        LeverCurtain x = new LeverCurtain(2);
        know(x, "abcdefgh");
        String[] texts = {"abcdefgh", "abcdefg", "abcdef", "abcde", "abcd", "abc", "ab", "a", "zzzzzzzz"};
        for (int paper = 0; paper < texts.length; paper++) {
            read(x, 0, paper, texts[paper]);
        }
        for (int paper = 0; paper < texts.length; paper++) {
            Due.is(paper < 2 ? 1 : 0, x.goes(0, paper), "goes at first, by limit 1");
        }
        Due.no(x.limit(-1), "limit -1");
        Due.no(x.limit(9), "limit 9");
        Due.is(1, x.goes(0, 1), "goes by limit 1 still");
        for (int limit = 0; limit <= 8; limit++) {
            Due.yes(x.limit(limit), "limit " + limit);
            for (int paper = 0; paper < texts.length; paper++) {
                Due.is(paper <= limit ? 1 : 0, x.goes(0, paper), "goes of " + paper + " by limit " + limit);
            }
        }
    }

    private static void far(int want, String text, String name) {
        LeverCurtain x = new LeverCurtain(2);
        read(x, 1, 7, text);
        know(x, name);
        Due.is(want, x.far(1, 7, 0), "far of «" + text + "» from " + name);
        read(x, 1, 7, text);
        Due.is(want, x.far(1, 7, 0), "far of «" + text + "» from " + name + ", read later");
    }

    private static void distances() {
        far(0, "anna", "anna");
        far(1, "anna", "hanna");
        far(1, "hanna", "anna");
        far(2, "hann", "anna");
        far(3, "kitten", "sitting");
        far(3, "sitting", "kitten");
        far(8, "abcdefgh", "ijklmnop");
        far(8, "a", "ijklmnop");
        far(7, "i", "ijklmnop");
        far(7, "p", "ijklmnop");
        far(2, "ab", "ba");
        far(2, "abcdefgh", "bcdefgha");
        far(0, ".", "a");
        far(0, "....", "anna");
        far(1, ".....", "anna");
        far(1, "...", "anna");
        far(0, ".nn.", "anna");
        far(1, ".nn", "anna");
        far(1, "b.na", "anna");
        far(7, ".", "abcdefgh");
        far(2, "x.y.", "ab");
        LeverCurtain x = new LeverCurtain(2);
        know(x, "ab");
        read(x, 1, 2, "ab");
        int[][] wrong = {{0, 2, 0}, {1, 1, 0}, {1, 2, 1}, {1, 2, -1}, {-1, 2, 0}, {4, 2, 0}, {1, -1, 0}, {1, 30, 0},
            {5, 1, 0}, {-3, 3, 0}};
        for (int[] w : wrong) {
            Due.is(NONE, x.far(w[0], w[1], w[2]), "far " + java.util.Arrays.toString(w));
        }
    }

    private static void going() {
        LeverCurtain x = new LeverCurtain(2);
        read(x, 0, 0, "anna");
        Due.is(0, x.goes(0, 0), "goes, where there is no name");
        know(x, "anna", "anne", "hanna", "zzzzzz");
        Due.is(1, x.goes(0, 0), "goes to the nearest alone");
        read(x, 0, 1, "ann.");
        Due.is(3, x.goes(0, 1), "in doubt between two at 0");
        read(x, 0, 2, "ann");
        Due.is(3, x.goes(0, 2), "in doubt between two at 1");
        read(x, 0, 3, "hann");
        Due.is(4, x.goes(0, 3), "one at 1, two at 2");
        read(x, 0, 4, "hannx");
        Due.is(4, x.goes(0, 4), "one at 1");
        read(x, 0, 5, "bob");
        Due.is(0, x.goes(0, 5), "lost");
        x.limit(2);
        Due.is(4, x.goes(0, 3), "the nearest alone by a wider limit");
        x.limit(8);
        Due.is(3, x.goes(0, 5), "all at 4 but for the others");
        int[][] wrong = {{1, 0}, {0, 6}, {-1, 0}, {4, 0}, {0, -1}, {0, 30}};
        for (int[] pair : wrong) {
            Due.is(NONE, x.goes(pair[0], pair[1]), "goes " + java.util.Arrays.toString(pair));
        }
    }

    private static void agreeing() {
        LeverCurtain x = new LeverCurtain(2);
        know(x, "anna", "anne", "ivan");
        Due.is(NONE, x.agrees(0), "not read");
        Due.is(NONE, x.agrees(-1), "no such paper");
        Due.is(NONE, x.agrees(30), "no such paper");
        read(x, 2, 0, "anna");
        Due.is(0, x.agrees(0), "one hand");
        read(x, 0, 0, "bnna");
        Due.is(0, x.agrees(0), "both near the same");
        read(x, 3, 0, "ann.");
        Due.is(NONE, x.agrees(0), "one in doubt");
        read(x, 3, 0, "ivan");
        Due.is(NONE, x.agrees(0), "two names");
        read(x, 3, 0, "zzzz");
        Due.is(NONE, x.agrees(0), "one lost");
        read(x, 3, 0, "an.a");
        Due.is(0, x.agrees(0), "all agree again");
        read(x, 0, 29, "ann");
        read(x, 1, 29, "ann");
        Due.is(NONE, x.agrees(29), "all in the same doubt");
        read(x, 0, 28, "ivan");
        Due.is(2, x.agrees(28), "the last name");
        LeverCurtain y = new LeverCurtain(2);
        read(y, 0, 0, "a");
        Due.is(NONE, y.agrees(0), "no name to agree on");
    }

    private static void counting() {
        LeverCurtain x = new LeverCurtain(2);
        know(x, "anna", "anne", "ivan");
        for (int what = 0; what < 4; what++) {
            Due.is(0, x.papers(what), "papers of none read");
        }
        read(x, 0, 0, "anna");
        read(x, 1, 1, "anna");
        read(x, 3, 1, "anna");
        read(x, 1, 2, "ivan");
        read(x, 2, 2, "ivam");
        read(x, 1, 3, "ann.");
        read(x, 2, 3, "anna");
        read(x, 3, 3, "anna");
        read(x, 0, 29, "zz");
        read(x, 1, 28, "ivan");
        read(x, 2, 28, "ivanx");
        read(x, 2, 27, "anna");
        read(x, 3, 27, "ivan");
        Due.is(7, x.papers(0), "papers read");
        Due.is(4, x.papers(1), "papers that agree");
        Due.is(3, x.papers(2), "papers disputed");
        Due.is(4, x.papers(3), "papers read unlike");
        LeverCurtain y = new LeverCurtain(2);
        know(y, "anna");
        read(y, 3, 4, "anna");
        read(y, 0, 5, "bnna");
        read(y, 3, 5, "bnna");
        read(y, 0, 6, "cnna");
        Due.is(0, y.papers(3), "papers beside each other are not one");
        Due.is(3, y.papers(1), "each agrees");
        Due.is(NONE, y.far(-1, 5, 0), "hand -1");
        Due.is(NONE, y.far(4, 5, 0), "hand 4");
        Due.is(NONE, y.goes(-1, 5), "hand -1");
        Due.is(NONE, y.goes(4, 5), "hand 4");
        Due.is(NONE, x.papers(4), "no such what");
        Due.is(NONE, x.papers(-1), "no such what");
    }

    private static void written() {
        LeverCurtain x = new LeverCurtain(2);
        know(x, "anna", "anne", "ivan");
        read(x, 0, 0, "anna");
        read(x, 1, 0, "anna");
        read(x, 0, 1, "anna");
        read(x, 1, 1, "ivan");
        read(x, 0, 2, "ann");
        read(x, 0, 29, "ivan");
        read(x, 0, 3, "qqq");
        int[][] want = {{1, 3}, {0, 1}, {1, 2}};
        for (int name = 0; name < 3; name++) {
            Due.is(want[name][0], x.writtenFor(name, 0), "sure for " + name);
            Due.is(want[name][1], x.writtenFor(name, 1), "most for " + name);
        }
        Due.is(NONE, x.writtenFor(3, 0), "no such name");
        Due.is(NONE, x.writtenFor(-1, 0), "no such name");
        Due.is(NONE, x.writtenFor(0, 2), "no such what");
        Due.is(NONE, x.writtenFor(0, -1), "no such what");
    }

    private static void electing() {
        LeverCurtain x = new LeverCurtain(2);
        Due.is(NONE, x.elected(), "no name");
        know(x, "anna");
        Due.is(0, x.elected(), "one name alone");
        know(x, "ivan");
        Due.is(NONE, x.elected(), "two names, no paper");
        read(x, 0, 0, "ivan");
        Due.is(1, x.elected(), "one paper");
        read(x, 0, 1, "anna");
        Due.is(NONE, x.elected(), "one each");
        read(x, 0, 2, "anna");
        Due.is(0, x.elected(), "two to one");
        read(x, 0, 3, "anna");
        read(x, 1, 3, "ivan");
        Due.is(NONE, x.elected(), "two to perhaps two");
        read(x, 0, 4, "anna");
        Due.is(0, x.elected(), "three to perhaps two");
        know(x, "anne");
        Due.is(0, x.elected(), "a third that is not nearest anywhere");
        read(x, 0, 5, "ann.");
        read(x, 0, 6, "ann.");
        read(x, 0, 7, "ann.");
        Due.is(NONE, x.elected(), "three in doubt could be the third's");
    }
}
