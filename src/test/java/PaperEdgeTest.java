/**
 * The boundaries of the Terms 5 and of promises 34 to 42: NAMES, readings, what PAPERS agree on, who is ELECTED.
 * The number before each text is that of the promise.
 */
public final class PaperEdgeTest {
    private static final int NONE = LeverCurtain.NONE;
    private static final int LOW = Integer.MIN_VALUE;
    private static final int TOP = Integer.MAX_VALUE;

    public static void main(String[] args) {
        nameOfOneToEightLetters();
        nameOfLettersAlone();
        namesNotAlike();
        namesEight();
        readingOfOneToEight();
        readingOfLettersAndDots();
        handsAndPapers();
        readAnew();
        limitWithin();
        farNone();
        farExtremes();
        farByEachWay();
        farOfDots();
        farOfOneReadingAlone();
        goesByLimit();
        goesInDoubt();
        goesNone();
        agreesNone();
        agreesOfAllHands();
        papersNoneAndAll();
        papersUnlike();
        papersOfWhat();
        writtenWithin();
        sureAndMost();
        electedNone();
        electedAlone();
        electedByOne();
        electedOfEight();
        Due.end();
    }

    private static LeverCurtain known(String... names) {
        LeverCurtain x = new LeverCurtain(2);
        for (String name : names) {
            know(x, name);
        }
        return x;
    }

    private static void know(LeverCurtain x, String name) {
        int before = x.count(8);
        Due.tape(x, name);
        Due.is(before, x.known(), "34: «" + name + "»");
        Due.is(0, x.count(5), "34: the tape is empty behind «" + name + "»");
        Due.is(before + 1, x.count(8), "34: one more by «" + name + "»");
    }

    private static void unknown(LeverCurtain x, String text) {
        int before = x.count(8);
        Due.tape(x, text);
        Due.is(NONE, x.known(), "34: «" + text + "»");
        Due.is(text.length(), x.count(5), "34: the tape stays behind «" + text + "»");
        Due.is(before, x.count(8), "34: none more by «" + text + "»");
    }

    private static void read(LeverCurtain x, int hand, int paper, String text) {
        Due.tape(x, text);
        Due.yes(x.read(hand, paper), "35: «" + text + "»");
        Due.is(0, x.count(5), "35: the tape is empty behind «" + text + "»");
    }

    private static void unread(LeverCurtain x, int hand, int paper, String text) {
        Due.tape(x, text);
        Due.no(x.read(hand, paper), "35: «" + text + "» by " + hand + " of " + paper);
        Due.is(text.length(), x.count(5), "35: the tape stays behind «" + text + "»");
    }

    private static void nameOfOneToEightLetters() {
        LeverCurtain x = known();
        Due.is(NONE, x.known(), "34: an empty tape");
        unknown(x, "");
        unknown(x, "abcdefghi");
        unknown(x, "a".repeat(120));
        know(x, "abcdefgh");
        know(x, "a");
        unknown(x, "zzzzzzzzz");
        Due.yes(x.end(8), "11: a letter less");
        Due.is(2, x.known(), "34: eight letters");
    }

    /** Each byte in the first and in the last place of a NAME: a .. z alone can be. */
    private static void nameOfLettersAlone() {
        for (int sign = 1; sign < 256; sign++) {
            boolean letter = sign >= 'a' && sign <= 'z';
            LeverCurtain x = known();
            x.feed(sign, 'x', 0, 0, 0);
            Due.is(letter ? 0 : NONE, x.known(), "34: byte " + sign + " first");
            LeverCurtain y = known();
            y.feed('x', sign, 0, 0, 0);
            Due.is(letter ? 0 : NONE, y.known(), "34: byte " + sign + " last");
            Due.is(letter ? 0 : 2, y.count(5), "34: the tape behind byte " + sign);
            LeverCurtain z = known();
            z.feed(sign, 0, 0, 0, 0);
            Due.is(letter ? 0 : NONE, z.known(), "34: byte " + sign + " alone");
        }
    }

    private static void namesNotAlike() {
        LeverCurtain x = known("anna", "a");
        unknown(x, "anna");
        unknown(x, "a");
        know(x, "ann");
        know(x, "annas");
        know(x, "anne");
        know(x, "bnna");
        unknown(x, "anne");
        unknown(x, "ann");
        Due.is(6, x.count(8), "34: six");
    }

    private static void namesEight() {
        LeverCurtain x = known("a", "b", "c", "d", "e", "f", "g");
        unknown(x, "g");
        know(x, "h");
        unknown(x, "i");
        unknown(x, "h");
        read(x, 0, 0, "h");
        Due.is(128, x.goes(0, 0), "38: to the last of eight");
        Due.is(0, x.far(0, 0, 7), "37: from the last of eight");
        Due.is(NONE, x.far(0, 0, 8), "37: from a ninth");
    }

    private static void readingOfOneToEight() {
        LeverCurtain x = known("a");
        Due.no(x.read(0, 0), "35: an empty tape");
        unread(x, 0, 0, "");
        unread(x, 0, 0, "abcdefghi");
        unread(x, 0, 0, ".........");
        unread(x, 0, 0, "a".repeat(120));
        Due.is(NONE, x.goes(0, 0), "38: not read");
        Due.is(0, x.papers(0), "40: none read");
        read(x, 0, 0, "abcdefgh");
        Due.is(7, x.far(0, 0, 0), "37: of eight letters");
        read(x, 0, 0, "b");
        Due.is(1, x.far(0, 0, 0), "37: of one letter");
        unread(x, 0, 0, "");
        unread(x, 0, 0, "abcdefghi");
        Due.is(1, x.far(0, 0, 0), "37: of one letter still");
    }

    private static void readingOfLettersAndDots() {
        for (int sign = 1; sign < 256; sign++) {
            boolean fine = sign >= 'a' && sign <= 'z' || sign == '.';
            LeverCurtain x = known();
            x.feed(sign, 'x', 0, 0, 0);
            Due.is(fine ? 1 : 0, x.read(1, 1) ? 1 : 0, "35: byte " + sign + " first");
            x.end(0);
            x.feed('x', sign, 0, 0, 0);
            Due.is(fine ? 1 : 0, x.read(2, 2) ? 1 : 0, "35: byte " + sign + " last");
            Due.is(fine ? 0 : 2, x.count(5), "35: the tape behind byte " + sign);
            Due.is(fine ? 2 : 0, x.papers(0), "40: read with byte " + sign);
        }
    }

    private static void handsAndPapers() {
        LeverCurtain x = known("anna");
        int[] hands = {LOW, -1, 4, 5, TOP};
        int[] papers = {LOW, -1, 30, 31, TOP};
        for (int i = 0; i < 5; i++) {
            unread(x, hands[i], 0, "anna");
            unread(x, 0, papers[i], "anna");
            Due.is(NONE, x.goes(hands[i], 0), "38: hand " + hands[i]);
            Due.is(NONE, x.goes(0, papers[i]), "38: paper " + papers[i]);
            Due.is(NONE, x.far(hands[i], 0, 0), "37: hand " + hands[i]);
            Due.is(NONE, x.far(0, papers[i], 0), "37: paper " + papers[i]);
            Due.is(NONE, x.agrees(papers[i]), "39: paper " + papers[i]);
        }
        Due.is(0, x.papers(0), "40: none read");
        int read = 0;
        for (int paper : new int[] {0, 1, 28, 29}) {
            for (int hand = 0; hand < 4; hand++) {
                Due.is(NONE, x.goes(hand, paper), "38: not read by " + hand + " of " + paper);
                read(x, hand, paper, hand % 2 == 0 ? "anna" : "ann");
                Due.is(hand % 2, x.far(hand, paper, 0), "37: read by " + hand + " of " + paper);
            }
            read++;
            Due.is(read, x.papers(0), "40: papers read");
        }
        Due.is(NONE, x.goes(0, 2), "38: paper 2 is not read");
        Due.is(NONE, x.goes(-1, 1), "38: hand -1 is not another paper's");
        Due.is(NONE, x.goes(4, 0), "38: hand 4 is not another paper's");
        Due.is(NONE, x.goes(4, 28), "38: hand 4 is not another paper's");
    }

    private static void readAnew() {
        LeverCurtain x = known("anna", "bob");
        read(x, 2, 3, "annaanna");
        Due.is(4, x.far(2, 3, 0), "37: at first");
        read(x, 2, 3, "bob");
        Due.is(0, x.far(2, 3, 1), "37: read anew");
        Due.is(4, x.far(2, 3, 0), "37: read anew");
        Due.is(1, x.agrees(3), "39: on what was read anew");
        Due.is(0, x.papers(3), "40: one reading alone");
        unread(x, 2, 3, "BOB");
        Due.is(2, x.goes(2, 3), "38: as it was");
        Due.is(1, x.papers(0), "40: one paper");
        read(x, 1, 3, "anna");
        Due.is(NONE, x.agrees(3), "39: another hand reads another name");
        Due.is(2, x.goes(2, 3), "38: the first hand's reading is as it was");
        read(x, 1, 3, ".o.");
        Due.is(1, x.agrees(3), "39: both go to one");
    }

    private static void limitWithin() {
        LeverCurtain x = known("abcdefgh");
        String same = "abcdefgh";
        for (int far = 0; far <= 8; far++) {
            read(x, 0, far, "zzzzzzzz".substring(0, far) + same.substring(far));
            Due.is(far, x.far(0, far, 0), "37: " + far + " changed");
        }
        until(x, 1, "at first");
        for (int limit = 0; limit <= 8; limit++) {
            Due.yes(x.limit(limit), "36: limit " + limit);
            until(x, limit, "by limit " + limit);
        }
        for (int limit = 8; limit >= 0; limit -= 4) {
            Due.yes(x.limit(limit), "36: limit " + limit);
            for (int wrong : new int[] {LOW, -1, 9, 10, TOP}) {
                Due.no(x.limit(wrong), "36: limit " + wrong);
            }
            until(x, limit, "by limit " + limit + " still");
        }
    }

    private static void until(LeverCurtain x, int limit, String what) {
        for (int far = 0; far <= 8; far++) {
            Due.is(far <= limit ? 1 : 0, x.goes(0, far), "38: a reading that is " + far + " far, " + what);
        }
    }

    private static void farNone() {
        LeverCurtain x = known("ab");
        Due.is(NONE, x.far(0, 0, 0), "37: not read");
        read(x, 0, 0, "ab");
        Due.is(0, x.far(0, 0, 0), "37: read");
        Due.is(NONE, x.far(1, 0, 0), "37: not read by that hand");
        Due.is(NONE, x.far(0, 1, 0), "37: that paper is not read");
        for (int name : new int[] {LOW, -1, 1, 8, TOP}) {
            Due.is(NONE, x.far(0, 0, name), "37: name " + name);
        }
        LeverCurtain none = known();
        read(none, 0, 0, "ab");
        Due.is(NONE, none.far(0, 0, 0), "37: no name");
        know(none, "ac");
        Due.is(1, none.far(0, 0, 0), "37: a name that came later");
    }

    private static void far(int want, String text, String name) {
        LeverCurtain x = known(name);
        read(x, 3, 29, text);
        Due.is(want, x.far(3, 29, 0), "37: «" + text + "» from " + name);
        LeverCurtain y = known();
        read(y, 0, 0, text);
        read(y, 3, 29, text);
        know(y, name);
        Due.is(want, y.far(0, 0, 0), "37: «" + text + "» from " + name + ", known later");
        Due.is(want, y.far(3, 29, 0), "37: «" + text + "» from " + name + ", known later, by the last hand");
    }

    private static void farExtremes() {
        far(0, "abcdefgh", "abcdefgh");
        far(0, "a", "a");
        far(1, "b", "a");
        far(8, "zzzzzzzz", "abcdefgh");
        far(8, "abcdefgh", "z");
        far(8, "z", "abcdefgh");
        far(7, "abcdefgh", "h");
        far(7, "h", "abcdefgh");
        far(7, "abcdefgh", "a");
        far(7, "zabcdefh", "h");
        far(8, "zabcdefg", "h");
    }

    private static void farByEachWay() {
        far(1, "anna", "annas");
        far(1, "annas", "anna");
        far(1, "nna", "anna");
        far(1, "anna", "nna");
        far(1, "ana", "anna");
        far(1, "anna", "ana");
        far(1, "anxa", "anna");
        far(3, "naan", "anna");
        far(2, "ab", "ba");
        far(2, "abcdefgh", "bcdefghi");
        far(4, "abcd", "efgh");
        far(3, "abc", "cab".repeat(2));
    }

    private static void farOfDots() {
        far(0, ".", "a");
        far(0, "........", "abcdefgh");
        far(7, "........", "a");
        far(7, ".", "abcdefgh");
        far(1, "..", "a");
        far(1, ".", "ab");
        far(0, "a.c", "abc");
        far(1, "a.c", "ac");
        far(1, "a.c", "abbc");
        far(1, "a.d", "abc");
        far(1, "a..", "ab");
        far(2, "x.x", "abc");
    }

    /** What stands beside a reading, before and behind it, counts for nothing. */
    private static void farOfOneReadingAlone() {
        LeverCurtain x = known("ab", "abcdefgh");
        for (int hand = 0; hand < 4; hand++) {
            read(x, hand, 7, "babababa");
        }
        read(x, 1, 7, "b");
        Due.is(1, x.far(1, 7, 0), "37: between two of eight letters");
        Due.is(7, x.far(1, 7, 1), "37: between two of eight letters");
        read(x, 1, 7, "bcdefgha");
        Due.is(2, x.far(1, 7, 1), "37: eight letters between two of eight");
        read(x, 1, 7, "a");
        Due.is(1, x.far(1, 7, 0), "37: one letter instead of eight");
        Due.is(6, x.far(0, 7, 0), "37: the one before");
        Due.is(6, x.far(2, 7, 0), "37: the one behind");
    }

    private static void goesByLimit() {
        LeverCurtain x = known("abcd", "abzzzzzz");
        read(x, 0, 0, "abcx");
        x.limit(0);
        Due.is(0, x.goes(0, 0), "38: one more than the limit: lost");
        x.limit(1);
        Due.is(1, x.goes(0, 0), "38: just the limit");
        x.limit(8);
        Due.is(1, x.goes(0, 0), "38: to the nearest alone, though others are within the limit");
        read(x, 0, 0, "abcd");
        x.limit(0);
        Due.is(1, x.goes(0, 0), "38: letter for letter, limit 0");
    }

    private static void goesInDoubt() {
        LeverCurtain x = known("aa", "ab", "ac", "ad", "ae", "af", "ag");
        read(x, 0, 0, "a.");
        Due.is(127, x.goes(0, 0), "38: between seven");
        know(x, "ah");
        Due.is(255, x.goes(0, 0), "38: between all eight");
        read(x, 0, 1, "ax");
        Due.is(255, x.goes(0, 1), "38: between all eight, just the limit");
        x.limit(0);
        Due.is(0, x.goes(0, 1), "38: lost");
        Due.is(255, x.goes(0, 0), "38: between all eight, limit 0");
        read(x, 0, 2, "ac");
        Due.is(4, x.goes(0, 2), "38: one is nearer");
        x.limit(8);
        Due.is(4, x.goes(0, 2), "38: one is nearer");
        read(x, 0, 3, "zzzzzzzz");
        Due.is(255, x.goes(0, 3), "38: all are eight far, limit 8");
        x.limit(7);
        Due.is(0, x.goes(0, 3), "38: all are eight far, limit 7");
        Due.is(NONE, x.agrees(0), "39: in doubt");
        Due.is(NONE, x.agrees(3), "39: lost");
        Due.is(2, x.agrees(2), "39: one");
    }

    private static void goesNone() {
        LeverCurtain x = known();
        Due.is(NONE, x.goes(0, 0), "38: not read");
        read(x, 0, 0, "anna");
        Due.is(0, x.goes(0, 0), "38: no name: lost");
        x.limit(8);
        Due.is(0, x.goes(0, 0), "38: no name, limit 8: lost");
        Due.is(NONE, x.goes(1, 0), "38: not read by that hand");
        Due.is(NONE, x.goes(0, 1), "38: that paper is not read");
        know(x, "bob");
        Due.is(1, x.goes(0, 0), "38: one name, limit 8");
    }

    private static void agreesNone() {
        LeverCurtain x = known();
        for (int paper : new int[] {LOW, -1, 0, 29, 30, TOP}) {
            Due.is(NONE, x.agrees(paper), "39: paper " + paper);
        }
        read(x, 0, 29, "anna");
        Due.is(NONE, x.agrees(29), "39: no name");
        Due.is(1, x.papers(2), "40: read, but it does not agree");
        know(x, "anna");
        Due.is(0, x.agrees(29), "39: the first name");
        Due.is(0, x.papers(2), "40: it agrees");
    }

    private static void agreesOfAllHands() {
        LeverCurtain x = known("anna", "otto");
        for (int hand = 0; hand < 4; hand++) {
            read(x, hand, 5, hand == 0 ? "otto" : "ott" + "xyz".charAt(hand - 1));
            Due.is(1, x.agrees(5), "39: hands to " + hand);
        }
        for (int hand = 0; hand < 4; hand++) {
            read(x, hand, 5, "anna");
            Due.is(NONE, x.agrees(5), "39: hand " + hand + " reads another name");
            read(x, hand, 5, "xxxx");
            Due.is(NONE, x.agrees(5), "39: hand " + hand + " reads none");
            read(x, hand, 5, "....");
            Due.is(NONE, x.agrees(5), "39: hand " + hand + " is in doubt");
            read(x, hand, 5, "otto");
            Due.is(1, x.agrees(5), "39: all hands agree");
        }
    }

    private static void papersNoneAndAll() {
        LeverCurtain x = known("a");
        for (int what = 0; what < 4; what++) {
            Due.is(0, x.papers(what), "40: papers(" + what + ") of none");
        }
        Due.is(0, x.writtenFor(0, 0), "41: sure of none");
        Due.is(0, x.writtenFor(0, 1), "41: most of none");
        for (int paper = 0; paper < 30; paper++) {
            x.feed('a', 0, 0, 0, 0);
            Due.yes(x.read(paper % 4, paper), "35: paper " + paper);
            Due.is(paper + 1, x.papers(0), "40: papers read");
            Due.is(paper + 1, x.papers(1), "40: papers that agree");
            Due.is(0, x.papers(2), "40: papers disputed");
        }
        Due.is(30, x.writtenFor(0, 0), "41: sure of all");
        Due.is(30, x.writtenFor(0, 1), "41: most of all");
        for (int paper = 0; paper < 30; paper++) {
            x.feed('z', 'z', 0, 0, 0);
            Due.yes(x.read((paper + 1) % 4, paper), "35: paper " + paper);
        }
        Due.is(30, x.papers(0), "40: all read");
        Due.is(0, x.papers(1), "40: none agrees");
        Due.is(30, x.papers(2), "40: all disputed");
        Due.is(30, x.papers(3), "40: all read unlike");
        Due.is(0, x.writtenFor(0, 0), "41: sure of none");
        Due.is(30, x.writtenFor(0, 1), "41: most of all");
    }

    private static void papersUnlike() {
        LeverCurtain x = known("anna");
        read(x, 3, 0, "anna");
        Due.is(0, x.papers(3), "40: one reading");
        read(x, 1, 0, "anna");
        Due.is(0, x.papers(3), "40: two alike");
        read(x, 0, 0, "ann.");
        Due.is(1, x.papers(3), "40: a letter that can't be read is not that letter");
        Due.is(1, x.papers(1), "40: it agrees all the same");
        read(x, 0, 0, "anna");
        Due.is(0, x.papers(3), "40: three alike");
        read(x, 2, 0, "ann");
        Due.is(1, x.papers(3), "40: one shorter");
        read(x, 2, 0, "annaa");
        Due.is(1, x.papers(3), "40: one longer");
        read(x, 2, 0, "anna");
        Due.is(0, x.papers(3), "40: four alike");
        read(x, 0, 1, "otto");
        Due.is(0, x.papers(3), "40: another paper is another");
        read(x, 1, 1, "ott.");
        read(x, 0, 2, "ott.");
        read(x, 1, 2, "ott.");
        Due.is(1, x.papers(3), "40: that one alone");
        Due.is(2, x.papers(2), "40: two disputed: both lost");
    }

    private static void papersOfWhat() {
        LeverCurtain x = known("anna");
        read(x, 0, 0, "anna");
        for (int what : new int[] {LOW, -1, 4, 5, TOP}) {
            Due.is(NONE, x.papers(what), "40: papers(" + what + ")");
        }
        int[] want = {1, 1, 0, 0};
        for (int what = 0; what < 4; what++) {
            Due.is(want[what], x.papers(what), "40: papers(" + what + ")");
        }
    }

    private static void writtenWithin() {
        LeverCurtain x = known();
        Due.is(NONE, x.writtenFor(0, 0), "41: no name");
        know(x, "anna");
        read(x, 0, 0, "anna");
        for (int name : new int[] {LOW, -1, 1, 8, TOP}) {
            Due.is(NONE, x.writtenFor(name, 0), "41: name " + name);
            Due.is(NONE, x.writtenFor(name, 1), "41: name " + name);
        }
        for (int what : new int[] {LOW, -1, 2, TOP}) {
            Due.is(NONE, x.writtenFor(0, what), "41: what " + what);
        }
        Due.is(1, x.writtenFor(0, 0), "41: sure");
        Due.is(1, x.writtenFor(0, 1), "41: most");
    }

    private static void sureAndMost() {
        LeverCurtain x = known("anna", "anne", "otto");
        written(x, "none", 0, 0, 0, 0, 0, 0);
        read(x, 0, 0, "anna");
        written(x, "one", 1, 1, 0, 0, 0, 0);
        read(x, 1, 0, "anna");
        written(x, "read by two hands is one paper", 1, 1, 0, 0, 0, 0);
        read(x, 1, 0, "otto");
        written(x, "disputed between two", 0, 1, 0, 0, 0, 1);
        read(x, 0, 1, "ann.");
        written(x, "in doubt between two", 0, 2, 0, 1, 0, 1);
        read(x, 1, 1, "anna");
        written(x, "in doubt, and one of them", 0, 2, 0, 1, 0, 1);
        read(x, 0, 2, "zzzz");
        written(x, "lost", 0, 2, 0, 1, 0, 1);
        read(x, 1, 2, "otto");
        written(x, "lost, and one", 0, 2, 0, 1, 0, 2);
        read(x, 0, 2, "ottoo");
        written(x, "both near one", 0, 2, 0, 1, 1, 2);
    }

    private static void written(LeverCurtain x, String what, int... want) {
        for (int name = 0; name < 3; name++) {
            Due.is(want[2 * name], x.writtenFor(name, 0), "41: sure for " + name + ": " + what);
            Due.is(want[2 * name + 1], x.writtenFor(name, 1), "41: most for " + name + ": " + what);
        }
    }

    private static void electedNone() {
        LeverCurtain x = known();
        Due.is(NONE, x.elected(), "42: no name");
        read(x, 0, 0, "anna");
        Due.is(NONE, x.elected(), "42: no name, though a paper is read");
        know(x, "anna");
        know(x, "otto");
        Due.is(0, x.elected(), "42: one to none");
        LeverCurtain none = known("anna", "otto");
        Due.is(NONE, none.elected(), "42: two names, none read: none is more");
    }

    private static void electedAlone() {
        LeverCurtain x = known("anna");
        Due.is(0, x.elected(), "42: one name alone, none read");
        read(x, 0, 0, "zzzz");
        Due.is(0, x.elected(), "42: one name alone, one lost");
    }

    private static void electedByOne() {
        LeverCurtain x = known("anna", "otto");
        read(x, 0, 0, "otto");
        Due.is(1, x.elected(), "42: one to none");
        read(x, 0, 1, "anna");
        Due.is(NONE, x.elected(), "42: one to one");
        read(x, 0, 2, "otto");
        Due.is(1, x.elected(), "42: two to one");
        read(x, 1, 2, "anna");
        Due.is(NONE, x.elected(), "42: one, and one disputed that may be the other's");
        read(x, 0, 3, "otto");
        Due.is(NONE, x.elected(), "42: two to perhaps two");
        read(x, 0, 4, "otto");
        Due.is(1, x.elected(), "42: three to perhaps two");
        read(x, 0, 5, "zzzz");
        Due.is(1, x.elected(), "42: one lost more");
        read(x, 0, 6, "....");
        Due.is(NONE, x.elected(), "42: one in doubt more: three to perhaps three");
        x.limit(0);
        Due.is(NONE, x.elected(), "42: in doubt still, as . is any letter");
        read(x, 0, 6, "...");
        Due.is(1, x.elected(), "42: lost by limit 0");
        x.limit(1);
        Due.is(NONE, x.elected(), "42: in doubt by limit 1");
    }

    private static void electedOfEight() {
        LeverCurtain x = known("aaaa", "bbbb", "cccc", "dddd", "eeee", "ffff", "gggg", "hhhh");
        Due.is(NONE, x.elected(), "42: none read");
        read(x, 0, 0, "hhhh");
        Due.is(7, x.elected(), "42: the last of eight");
        for (int name = 0; name < 7; name++) {
            read(x, 0, 1 + name, ("" + (char) ('a' + name)).repeat(4));
            Due.is(NONE, x.elected(), "42: one each");
        }
        read(x, 3, 29, "hhhh");
        Due.is(7, x.elected(), "42: two to one of each other");
        read(x, 3, 28, "aaaa");
        Due.is(NONE, x.elected(), "42: two to two");
    }
}
