/** The promises of the document one by one: ordinary inputs, the edges that it names, wrong inputs. */
public final class PromisesTest {
    private static final int NONE = -1, UNKNOWN = -101, OUTSIDE = -102, STATE = -103, FULL = -104;
    private static final int[] WILD = {Integer.MIN_VALUE, -105, -1, 127, 1000, Integer.MAX_VALUE};

    private static String promise = "";
    private static int wrong = 0;
    private static int asked = 0;

    public static void main(String[] args) {
        newObject();
        letter();
        blank();
        copy();
        correct();
        drop();
        band();
        of();
        sign();
        collate();
        similarLetters();
        bandedAlignment();
        allPairsOfSix();
        step();
        reading();
        states();
        treeTies();
        state();
        far();
        turned();
        severalReversions();
        see();
        unsee();
        seen();
        forme();
        presses();
        formes();
        faults();
        order();
        orderOfSix();
        whatWasDerived();
        count();
        digest();
        errorsChangeNothing();
        System.out.println(asked + " answers asked, " + wrong + " wrong");
        if (wrong != 0) {
            System.exit(1);
        }
    }

    private static void due(String what, long got, long want) {
        asked++;
        if (got != want) {
            wrong++;
            System.out.println(promise + ": " + what + " answered " + got + ", due is " + want);
        }
    }

    private static void type(StopPress x, String text) {
        for (char c : text.toCharArray()) {
            x.letter(c);
        }
    }

    private static StopPress with(String... copies) {
        StopPress x = new StopPress();
        for (String text : copies) {
            type(x, text);
            x.copy();
        }
        return x;
    }

    private static String times(String text, int n) {
        return text.repeat(n);
    }

    /** The steps of a best alignment as digits. */
    private static String steps(StopPress x, int one, int other) {
        StringBuilder text = new StringBuilder();
        for (int i = 0; i < 60 && x.step(one, other, i) >= 0; i++) {
            text.append(x.step(one, other, i));
        }
        return text.toString();
    }

    private static void dueSteps(StopPress x, int one, int other, String want) {
        String got = steps(x, one, other);
        due("steps " + got + " instead of " + want, got.equals(want) ? 1 : 0, 1);
    }

    private static void newObject() {
        promise = "1";
        StopPress x = new StopPress();
        due("copies", x.count(0), 0);
        due("sightings", x.count(1), 0);
        due("page", x.count(2), 0);
        due("band", x.count(3), 3);
        due("count(4)", x.count(4), 0);
        due("count(5)", x.count(5), 0);
        due("NONE", StopPress.NONE, NONE);
        due("UNKNOWN", StopPress.UNKNOWN, UNKNOWN);
        due("OUTSIDE", StopPress.OUTSIDE, OUTSIDE);
        due("STATE", StopPress.STATE, STATE);
        due("FULL", StopPress.FULL, FULL);
        StopPress y = new StopPress();
        type(x, "abc");
        x.copy();
        x.see(0, 0, 0, 1);
        due("another object's copies", y.count(0), 0);
        due("another object's sightings", y.count(1), 0);
    }

    private static void letter() {
        promise = "2";
        StopPress x = new StopPress();
        due("letter(32)", x.letter(32), 1);
        due("letter(126)", x.letter(126), 2);
        due("letter(31)", x.letter(31), OUTSIDE);
        for (int v : WILD) {
            due("letter(" + v + ")", x.letter(v), OUTSIDE);
        }
        due("page", x.count(2), 2);
        for (int i = 3; i <= 24; i++) {
            due("letter " + i, x.letter('a'), i);
        }
        due("letter 25", x.letter('a'), FULL);
        due("OUTSIDE before FULL", x.letter(127), OUTSIDE);
        due("page", x.count(2), 24);
    }

    private static void blank() {
        promise = "3";
        StopPress x = new StopPress();
        due("blank", x.blank(), 0);
        type(x, "ab");
        due("blank", x.blank(), 2);
        due("blank", x.blank(), 0);
        due("letter", x.letter('c'), 1);
        due("copy", x.copy(), 0);
        due("sign", x.sign(0, 0), 'c');
        due("sign", x.sign(0, 1), UNKNOWN);
    }

    private static void copy() {
        promise = "4";
        StopPress x = new StopPress();
        due("empty page", x.copy(), STATE);
        for (char c : "`{A @~".toCharArray()) {
            type(x, "ab");
            x.letter(c);
            due("with " + c, x.copy(), STATE);
            due("page stays", x.blank(), 3);
            x.letter(c);
            type(x, "ab");
            due("behind " + c, x.copy(), STATE);
            due("page stays", x.blank(), 3);
        }
        for (int i = 0; i < 6; i++) {
            type(x, "az".substring(i % 2));
            due("copy " + i, x.copy(), i);
            due("page is empty", x.count(2), 0);
        }
        due("STATE before FULL", x.copy(), STATE);
        type(x, "q");
        due("FULL", x.copy(), FULL);
        due("page stays", x.count(2), 1);
        due("count(4)", x.count(4), 6);
        x = with(times("abcdefgh", 3));
        due("24 letters", x.of(0, 0), 24);
    }

    private static void correct() {
        promise = "5";
        StopPress x = with("abc", "abd", "a");
        due("UNKNOWN before STATE", x.correct(3), UNKNOWN);
        due("empty page", x.correct(0), STATE);
        type(x, "a-");
        due("not a letter", x.correct(0), STATE);
        for (int v : WILD) {
            due("correct(" + v + ")", x.correct(v), UNKNOWN);
        }
        due("blank", x.blank(), 2);
        type(x, "xyzxy");
        due("correct(1)", x.correct(1), 3);
        due("page is empty", x.count(2), 0);
        due("sign(1, 4)", x.sign(1, 4), 'y');
        due("of(1, 0)", x.of(1, 0), 5);
        due("collate(0, 1, 0)", x.collate(0, 1, 0), 13);
        type(x, "xyzxz");
        due("correct(0)", x.correct(0), 3);
        due("places are copy 0's", x.reading(1, 4), 'y');
        due("collate(0, 1, 0)", x.collate(0, 1, 0), 3);
        due("collate(1, 0, 0)", x.collate(1, 0, 0), 3);
        due("of(2, 1): excluded", x.of(2, 1), NONE);
        due("copies", x.count(0), 3);
        due("count(4)", x.count(4), 5);
    }

    private static void drop() {
        promise = "6";
        StopPress x = with("abc", "abd", "xbc");
        due("states", x.states(0), 3);
        due("drop", x.drop(), 2);
        due("sign", x.sign(2, 0), UNKNOWN);
        due("states", x.states(0), 2);
        due("drop", x.drop(), 1);
        due("drop", x.drop(), 0);
        due("drop", x.drop(), STATE);
        due("states", x.states(0), 0);
        type(x, "new");
        due("copy", x.copy(), 0);
        due("sign", x.sign(0, 0), 'n');
        due("states", x.states(0), 1);
        x = with("aa", "ab");
        due("collate", x.collate(0, 1, 0), 3);
        x.drop();
        type(x, "aa");
        x.copy();
        due("collate with the new copy", x.collate(0, 1, 0), 0);
    }

    private static void band() {
        promise = "7";
        StopPress x = with("aaaa", "a");
        due("excluded by 3", x.of(1, 1), 1);
        due("band(-1)", x.band(-1), OUTSIDE);
        due("band(10)", x.band(10), OUTSIDE);
        for (int v : WILD) {
            due("band(" + v + ")", x.band(v), OUTSIDE);
        }
        due("band(2)", x.band(2), 3);
        due("excluded by 2", x.of(1, 1), NONE);
        due("band(9)", x.band(9), 2);
        due("band(0)", x.band(0), 9);
        due("band(0)", x.band(0), 0);
        due("excluded by 0", x.states(1), 1);
        due("band(3)", x.band(3), 0);
        due("not excluded", x.states(1), 0);
    }

    private static void of() {
        promise = "8";
        StopPress x = with("souls", "sonls", "soul", "ssoulss", "souls", "souuuuuuls");
        int[][] want = {
            {5, 0, 0, 0, 0}, {5, 1, 1, 0, 1}, {4, 2, 2, 0, 1}, {7, 0, 4, 2, 0}, {5, 0, 0, 0, 0}, {10, NONE, NONE, NONE, NONE}
        };
        for (int copy = 0; copy < want.length; copy++) {
            for (int what = 0; what < 5; what++) {
                due("of(" + copy + ", " + what + ")", x.of(copy, what), want[copy][what]);
            }
        }
        due("of(6, 0)", x.of(6, 0), UNKNOWN);
        due("UNKNOWN before OUTSIDE", x.of(6, 5), UNKNOWN);
        due("OUTSIDE before NONE", x.of(5, 5), OUTSIDE);
        for (int v : WILD) {
            due("of(0, " + v + ")", x.of(0, v), OUTSIDE);
            due("of(" + v + ", 0)", x.of(v, 0), UNKNOWN);
        }
    }

    private static void sign() {
        promise = "9";
        StopPress x = with("abc", "z");
        due("sign(0, 0)", x.sign(0, 0), 'a');
        due("sign(0, 2)", x.sign(0, 2), 'c');
        due("sign(0, 3)", x.sign(0, 3), UNKNOWN);
        due("sign(1, 0)", x.sign(1, 0), 'z');
        due("sign(1, 1)", x.sign(1, 1), UNKNOWN);
        due("sign(2, 0)", x.sign(2, 0), UNKNOWN);
        for (int v : WILD) {
            due("sign(0, " + v + ")", x.sign(0, v), UNKNOWN);
            due("sign(" + v + ", 0)", x.sign(v, 0), UNKNOWN);
        }
    }

    private static void collate() {
        promise = "10";
        // a-a, b left out, i-l, x-q, then z added twice
        StopPress x = with("abixm", "alqmzz", "abixmabixm");
        due("no alignment", x.collate(0, 2, 0), NONE);
        int[] forth = {0, 0, 0, 0, 0, 0, 0};
        for (int what = 0; what < 7; what++) {
            forth[what] = x.collate(0, 1, what);
        }
        // pairs a-a, b-l (3), i-q (3), x-m (3), m-z (3), z added (2): 14; a-a, b out, i-l, x-q, m-m, z z added: 10
        int[] want = {10, 7, 2, 1, 1, 1, 2};
        for (int what = 0; what < 7; what++) {
            due("collate(0, 1, " + what + ")", forth[what], want[what]);
        }
        int[] back = {10, 7, 2, 1, 1, 2, 1};
        for (int what = 0; what < 7; what++) {
            due("collate(1, 0, " + what + ")", x.collate(1, 0, what), back[what]);
            due("collate(2, 0, " + what + ")", x.collate(2, 0, what), NONE);
        }
        int[] same = {0, 10, 10, 0, 0, 0, 0};
        for (int what = 0; what < 7; what++) {
            due("collate(2, 2, " + what + ")", x.collate(2, 2, what), same[what]);
        }
        due("UNKNOWN before OUTSIDE", x.collate(0, 3, 7), UNKNOWN);
        due("OUTSIDE before NONE", x.collate(0, 2, 7), OUTSIDE);
        for (int v : WILD) {
            due("collate(0, 1, " + v + ")", x.collate(0, 1, v), OUTSIDE);
            due("collate(0, " + v + ", 0)", x.collate(0, v, 0), UNKNOWN);
            due("collate(" + v + ", 0, 0)", x.collate(v, 0, 0), UNKNOWN);
        }
    }

    private static void similarLetters() {
        promise = "10, similar letters";
        String[] groups = {"ijl", "nuv", "fs", "ceo", "bh", "rt"};
        for (char a = 'a'; a <= 'z'; a++) {
            StopPress x = new StopPress();
            x.letter(a);
            x.copy();
            x.letter('a');
            x.copy();
            for (char b = 'a'; b <= 'z'; b++) {
                x.letter(b);
                x.correct(1);
                int want = a == b ? 0 : 3;
                for (String group : groups) {
                    if (a != b && group.indexOf(a) >= 0 && group.indexOf(b) >= 0) {
                        want = 1;
                    }
                }
                due(a + " and " + b, x.collate(0, 1, 0), want);
            }
        }
    }

    private static void bandedAlignment() {
        promise = "10, the band";
        // Without a band b is left out at the front and added at the end: 4.
        StopPress x = with("bacdgk", "acdgkb");
        due("band 3", x.collate(0, 1, 0), 4);
        x.band(0);
        due("band 0: pairs alone", x.collate(0, 1, 0), 18);
        dueSteps(x, 0, 1, "000000");
        x.band(1);
        due("band 1", x.collate(0, 1, 0), 4);
        dueSteps(x, 0, 1, "1000002");
        x = with("bbacdgk", "acdgkbb");
        x.band(1);
        // With a difference of at most 1 the two b cannot both be left out before a.
        due("band 1 is too narrow", x.collate(0, 1, 0) > 8 ? 1 : 0, 1);
        x.band(2);
        due("band 2", x.collate(0, 1, 0), 8);
        dueSteps(x, 0, 1, "110000022");
        x = with(times("a", 24), times("a", 15), times("a", 14));
        x.band(9);
        due("lengths differ by 9", x.collate(0, 1, 0), 18);
        due("lengths differ by 10", x.collate(0, 2, 0), NONE);
        dueSteps(x, 0, 1, times("0", 15) + times("1", 9));
        dueSteps(x, 1, 0, times("0", 15) + times("2", 9));
        x = with(times("a", 24), times("z", 24));
        x.band(9);
        due("24 unlike pairs", x.collate(0, 1, 0), 72);
        due("24 unlike pairs", x.collate(0, 1, 4), 24);
    }

    private static void allPairsOfSix() {
        promise = "10, all pairs";
        StopPress x = with("a", "ad", "adg", "adgk", "adgkm", "adgkmp");
        x.band(9);
        for (int time = 0; time < 2; time++) {
            for (int one = 0; one < 6; one++) {
                for (int other = 0; other < 6; other++) {
                    due("left out, " + one + " and " + other, x.collate(one, other, 5), Math.max(0, one - other));
                    due("added, " + one + " and " + other, x.collate(one, other, 6), Math.max(0, other - one));
                }
            }
        }
        // Each copy in turn is replaced: all of its alignments are others then, and those of the rest stay.
        for (int copy = 5; copy >= 0; copy--) {
            x = with("a", "a", "a", "a", "a", "a");
            for (int other = 0; other < 6; other++) {
                due("before", x.collate(copy, other, 0) + x.collate(other, copy, 0), 0);
            }
            type(x, "d");
            x.correct(copy);
            for (int other = 0; other < 6; other++) {
                int want = other == copy ? 0 : 3;
                due(copy + " and " + other, x.collate(copy, other, 0), want);
                due(other + " and " + copy, x.collate(other, copy, 0), want);
            }
            due("the others", x.collate((copy + 1) % 6, (copy + 2) % 6, 0), 0);
        }
    }

    private static void step() {
        promise = "11";
        StopPress x = with("aa", "a", "ab", "ba", "aaaaaaaa");
        dueSteps(x, 0, 1, "01");
        dueSteps(x, 1, 0, "02");
        dueSteps(x, 1, 3, "20");
        dueSteps(x, 3, 1, "10");
        // a-b, b-a costs 6; left out and added costs 4, either way round; the smaller sequence counts
        dueSteps(x, 2, 3, "102");
        dueSteps(x, 3, 2, "102");
        dueSteps(x, 0, 0, "00");
        due("step(0, 1, 2)", x.step(0, 1, 2), UNKNOWN);
        due("no alignment", x.step(0, 4, 0), UNKNOWN);
        due("no copy", x.step(0, 5, 0), UNKNOWN);
        due("no copy", x.step(5, 0, 0), UNKNOWN);
        for (int v : WILD) {
            due("step(0, 1, " + v + ")", x.step(0, 1, v), UNKNOWN);
            due("step(" + v + ", 1, 0)", x.step(v, 1, 0), UNKNOWN);
            due("step(0, " + v + ", 0)", x.step(0, v, 0), UNKNOWN);
        }
        due("only the steps of now", with("ab", "a").step(0, 1, 2), UNKNOWN);
        // an unlike pair beside a left out letter: 0 comes before 1 at the same cost
        x = with("xk", "q");
        dueSteps(x, 0, 1, "01");
        x = with("q", "xk");
        dueSteps(x, 0, 1, "02");
    }

    private static void reading() {
        promise = "12";
        StopPress x = with("abc", "xabc", "ac", "abcdefghij", "abz");
        String[] want = {"abc", "abc", "a-c", null, "abz"};
        for (int copy = 0; copy < want.length; copy++) {
            for (int place = 0; place < 3; place++) {
                int v = want[copy] == null ? STATE : want[copy].charAt(place) == '-' ? NONE : want[copy].charAt(place);
                due("reading(" + copy + ", " + place + ")", x.reading(copy, place), v);
            }
            due("reading(" + copy + ", 3)", x.reading(copy, 3), UNKNOWN);
            due("reading(" + copy + ", -1)", x.reading(copy, -1), UNKNOWN);
        }
        due("no copy", x.reading(5, 0), UNKNOWN);
        for (int v : WILD) {
            due("reading(0, " + v + ")", x.reading(0, v), UNKNOWN);
            due("reading(" + v + ", 0)", x.reading(v, 0), UNKNOWN);
        }
    }

    private static void dueStates(StopPress x, int... want) {
        for (int what = 0; what < 6; what++) {
            due("states(" + what + ")", x.states(what), want[what]);
        }
    }

    private static void states() {
        promise = "13";
        StopPress x = new StopPress();
        dueStates(x, 0, 0, 0, 0, 0, 0);
        x = with("abcd");
        dueStates(x, 1, 0, 0, 0, 0, 1);
        x = with("abcd", "abxd", "ayxd", "abcd", "abcdabcdabcd", "azxd");
        // states abcd, abxd, ayxd, azxd; 0 - 1, 1 - 2, 1 - 3
        dueStates(x, 4, 1, 3, 2, 0, 2);
        x = with("aaaaaaaa", "baaaaaaa", "bbaaaaaa", "abbbaaaa");
        // 0 - 1 - 2, and abbbaaaa is 3 from each of 0 and 2: so from 0
        dueStates(x, 4, 0, 5, 4, 0, 2);
        x = with("aaaaaa", "bbaaaa", "abbbaa");
        // abbbaa is 3 from both
        dueStates(x, 3, 0, 5, 4, 0, 2);
        x = with("aaaaaa", "bbbaaa", "abbbba");
        // abbbba is 4 from aaaaaa, and 3 from bbbaaa: place 0 goes back to a
        dueStates(x, 3, 0, 6, 5, 1, 1);
        due("OUTSIDE", x.states(6), OUTSIDE);
        for (int v : WILD) {
            due("states(" + v + ")", x.states(v), OUTSIDE);
        }
        due("OUTSIDE without copies", new StopPress().states(-1), OUTSIDE);
    }

    private static void treeTies() {
        promise = "14, ties";
        // From state 0: state 1 at 2, state 2 at 2; 1 and 2 are 2 apart: the smallest U wins, then the smallest V.
        StopPress x = with("aaaa", "bbaa", "baba");
        due("parent of 1", x.state(1, 2), 0);
        due("parent of 2", x.state(2, 2), 0);
        due("index of 1", x.state(1, 6), 1);
        due("index of 2", x.state(2, 6), 2);
        // State 2 is nearer than state 1, and state 1 hangs on it.
        x = with("aaaa", "bbaa", "baaa", "bbba");
        due("parent of 2", x.state(2, 2), 0);
        due("index of 2", x.state(2, 6), 1);
        due("parent of 1", x.state(1, 2), 2);
        due("index of 1", x.state(1, 6), 2);
        due("parent of 3", x.state(3, 2), 1);
        due("index of 3", x.state(3, 6), 3);
        due("ancestors of 3", x.state(3, 4), 3);
    }

    private static void state() {
        promise = "14";
        StopPress x = with("aaaaaa", "bbbaaa", "abbbba", "aaaaaa", "bbbaaa");
        int[][] want = {{0, 2, NONE, 0, 0, 0, 0}, {1, 2, 0, 3, 1, 0, 1}, {2, 1, 1, 3, 2, 1, 2}};
        for (int state = 0; state < want.length; state++) {
            for (int what = 0; what < 7; what++) {
                due("state(" + state + ", " + what + ")", x.state(state, what), want[state][what]);
            }
        }
        due("state(3, 0)", x.state(3, 0), UNKNOWN);
        due("UNKNOWN before OUTSIDE", x.state(3, 7), UNKNOWN);
        due("OUTSIDE before NONE", x.state(0, 7), OUTSIDE);
        for (int v : WILD) {
            due("state(" + v + ", 0)", x.state(v, 0), UNKNOWN);
            due("state(0, " + v + ")", x.state(0, v), OUTSIDE);
        }
        x = with("abc", "abcdefgh", "abd");
        due("an excluded copy is no state's first", x.state(1, 0), 2);
        due("one copy alone", with("q").state(0, 1), 1);
    }

    private static void far() {
        promise = "15";
        StopPress x = with("abcd", "abd", "abxd", "abd");
        due("far(0, 1)", x.far(0, 1), 1);
        due("no letter differs from a letter", x.far(1, 2), 1);
        due("far(2, 1)", x.far(2, 1), 1);
        due("far(2, 2)", x.far(2, 2), 0);
        due("far(0, 3)", x.far(0, 3), UNKNOWN);
        due("far(3, 0)", x.far(3, 0), UNKNOWN);
        for (int v : WILD) {
            due("far(" + v + ", 0)", x.far(v, 0), UNKNOWN);
            due("far(0, " + v + ")", x.far(0, v), UNKNOWN);
        }
        due("without copies", new StopPress().far(0, 0), UNKNOWN);
    }

    private static void turned() {
        promise = "16";
        StopPress x = with("aaaaaa", "bbbaaa", "abbbba");
        for (int place = 0; place < 6; place++) {
            due("turned(0, " + place + ")", x.turned(0, place), 0);
            due("turned(1, " + place + ")", x.turned(1, place), 0);
            due("turned(2, " + place + ")", x.turned(2, place), place == 0 ? 1 : 0);
        }
        due("no place", x.turned(0, 6), UNKNOWN);
        due("no state", x.turned(3, 0), UNKNOWN);
        for (int v : WILD) {
            due("turned(" + v + ", 0)", x.turned(v, 0), UNKNOWN);
            due("turned(0, " + v + ")", x.turned(0, v), UNKNOWN);
        }
        due("without copies", new StopPress().turned(0, 0), UNKNOWN);
        // The reading of an ancestor further up than the parent's parent counts too.
        x = with("aaaaaaaa", "bbbaaaaa", "bbbbbbaa", "abbbbbbb");
        due("parent of 3", x.state(3, 2), 2);
        due("parent of 2", x.state(2, 2), 1);
        due("turned(3, 0)", x.turned(3, 0), 1);
        due("turned(3, 7)", x.turned(3, 7), 0);
        // b, then no letter, then b again: the last one is back.
        x = with("abcdef", "acdef", "abcdegx");
        due("no letter at 1", x.reading(1, 1), NONE);
        due("states", x.states(0), 3);
        due("parent of 2 is 0", x.state(2, 2), 0);
        due("turned(2, 1)", x.turned(2, 1), 0);
    }

    private static void severalReversions() {
        promise = "16, several places";
        // A chain of four states: at state 2 two places are back, at state 3 another one.
        StopPress x = with("aaaaaaaaaa", "dddddaaaaa", "aadddgggaa", "aaaddgggkk");
        for (int state = 1; state < 4; state++) {
            due("parent of " + state, x.state(state, 2), state - 1);
        }
        for (int state = 2; state < 4; state++) {
            for (int place = 0; place < 10; place++) {
                int want = state == 2 && place < 2 || state == 3 && place == 2 ? 1 : 0;
                due("turned(" + state + ", " + place + ")", x.turned(state, place), want);
            }
        }
        due("state(2, 5)", x.state(2, 5), 2);
        due("state(3, 5)", x.state(3, 5), 1);
        due("states(4)", x.states(4), 3);
        // With another state 2 none is back at it, but all three are at state 3.
        type(x, "dddddgggaa");
        x.correct(2);
        due("state(2, 5)", x.state(2, 5), 0);
        due("state(3, 5)", x.state(3, 5), 3);
        due("states(4)", x.states(4), 3);
        due("turned(2, 0)", x.turned(2, 0), 0);
    }

    private static void see() {
        promise = "17";
        StopPress x = new StopPress();
        int[][] bad = {{-1, 0, 0, 1}, {6, 0, 0, 1}, {0, -1, 0, 1}, {0, 6, 0, 1}, {0, 0, -1, 1}, {0, 0, 10, 1}, {0, 0, 0, 0}, {0, 0, 0, 10}};
        for (int[] b : bad) {
            due("see " + java.util.Arrays.toString(b), x.see(b[0], b[1], b[2], b[3]), OUTSIDE);
        }
        for (int v : WILD) {
            due("type " + v, x.see(v, 0, 0, 1), OUTSIDE);
            due("forme " + v, x.see(0, v, 0, 1), OUTSIDE);
            due("spot " + v, x.see(0, 0, v, 1), OUTSIDE);
            due("wear " + v, x.see(0, 0, 0, v), OUTSIDE);
        }
        due("see", x.see(5, 5, 9, 9), 0);
        due("see", x.see(0, 0, 0, 1), 1);
        due("the type again on this forme", x.see(0, 0, 1, 2), STATE);
        due("the spot again on this forme", x.see(1, 0, 0, 2), STATE);
        due("OUTSIDE before STATE", x.see(1, 0, 0, 10), OUTSIDE);
        due("the type and the spot on another forme", x.see(0, 1, 0, 1), 2);
        for (int i = 3; i < 12; i++) {
            due("sighting " + i, x.see(1 + (i - 3) % 4, (i - 3) / 4, i - 2, 1), i);
        }
        due("FULL", x.see(5, 4, 0, 1), FULL);
        due("STATE before FULL", x.see(5, 5, 0, 1), STATE);
        due("STATE before FULL", x.see(4, 5, 9, 1), STATE);
        due("sightings", x.count(1), 12);
        due("unsee", x.unsee(0), 11);
        due("see again", x.see(5, 5, 9, 9), 11);
    }

    private static void unsee() {
        promise = "18";
        StopPress x = new StopPress();
        due("none", x.unsee(0), UNKNOWN);
        x.see(0, 0, 0, 1);
        x.see(1, 1, 1, 2);
        x.see(2, 2, 2, 3);
        due("unsee(3)", x.unsee(3), UNKNOWN);
        for (int v : WILD) {
            due("unsee(" + v + ")", x.unsee(v), UNKNOWN);
        }
        due("unsee(1)", x.unsee(1), 2);
        due("the next one moved down", x.seen(1, 0), 2);
        due("the next one moved down", x.seen(1, 1), 2);
        due("the next one moved down", x.seen(1, 2), 2);
        due("the next one moved down", x.seen(1, 3), 3);
        due("the one before stays", x.seen(0, 3), 1);
        due("seen(2, 0)", x.seen(2, 0), UNKNOWN);
        due("forme 1 is no longer seen", x.forme(1, 0), 0);
        due("removed", x.count(5), 1);
        due("unsee(1)", x.unsee(1), 1);
        due("unsee(0)", x.unsee(0), 0);
        due("unsee(0)", x.unsee(0), UNKNOWN);
        due("removed", x.count(5), 3);
    }

    private static void seen() {
        promise = "19";
        StopPress x = new StopPress();
        due("none", x.seen(0, 0), UNKNOWN);
        x.see(1, 2, 3, 4);
        for (int what = 0; what < 4; what++) {
            due("seen(0, " + what + ")", x.seen(0, what), what + 1);
        }
        due("seen(0, 4)", x.seen(0, 4), OUTSIDE);
        due("seen(1, 0)", x.seen(1, 0), UNKNOWN);
        due("UNKNOWN before OUTSIDE", x.seen(1, 4), UNKNOWN);
        for (int v : WILD) {
            due("seen(" + v + ", 0)", x.seen(v, 0), UNKNOWN);
            due("seen(0, " + v + ")", x.seen(0, v), OUTSIDE);
        }
    }

    private static void forme() {
        promise = "20";
        StopPress x = new StopPress();
        int[] unseen = {0, 0, 0, NONE, NONE};
        for (int what = 0; what < 5; what++) {
            due("unseen, " + what, x.forme(3, what), unseen[what]);
        }
        x.see(0, 4, 0, 2);
        x.see(0, 1, 0, 5);
        x.see(1, 1, 1, 3);
        x.see(1, 2, 1, 3);
        x.see(0, 0, 0, 5);
        // 4 is ahead of 0 and 1; the same wear puts none ahead; 2 stands with 0 and 4
        int[][] want = {
            {1, 0, 1 << 2, 2, 0}, {2, 0, 0, 3, 1}, {1, 0, 1 | 1 << 4, 0, 0}, unseen, {1, 3, 1 << 2, 1, 2}, unseen
        };
        for (int forme = 0; forme < 6; forme++) {
            for (int what = 0; what < 5; what++) {
                due("forme(" + forme + ", " + what + ")", x.forme(forme, what), want[forme][what]);
            }
        }
        due("forme(6, 0)", x.forme(6, 0), UNKNOWN);
        due("UNKNOWN before OUTSIDE", x.forme(6, 5), UNKNOWN);
        due("OUTSIDE before NONE", x.forme(3, 5), OUTSIDE);
        for (int v : WILD) {
            due("forme(" + v + ", 0)", x.forme(v, 0), UNKNOWN);
            due("forme(0, " + v + ")", x.forme(0, v), OUTSIDE);
        }
        x.see(2, 0, 5, 1);
        x.see(2, 4, 5, 2);
        due("no order: no index", x.forme(2, 3), NONE);
        due("no order: presses all the same", x.forme(2, 4), 0);
    }

    private static void presses() {
        promise = "20, presses";
        StopPress x = new StopPress();
        // Conflicts 0-3, 3-1, 1-4: taking each the first press that is free gives 0, 0, 1, 1.
        x.see(0, 0, 0, 1);
        x.see(0, 3, 0, 1);
        x.see(1, 3, 1, 1);
        x.see(1, 1, 1, 1);
        x.see(2, 1, 2, 1);
        x.see(2, 4, 2, 1);
        int[] want = {0, 0, NONE, 1, 1, NONE};
        for (int forme = 0; forme < 6; forme++) {
            due("forme(" + forme + ", 4)", x.forme(forme, 4), want[forme]);
        }
        due("presses", x.formes(4), 2);
        // The path 0-2-3-1: each the first free press would need three; two are enough if 1 is on press 1.
        x = new StopPress();
        x.see(0, 0, 0, 1);
        x.see(0, 2, 0, 1);
        x.see(1, 2, 1, 1);
        x.see(1, 3, 1, 1);
        x.see(2, 3, 2, 1);
        x.see(2, 1, 2, 1);
        int[] path = {0, 1, 1, 0, NONE, NONE};
        for (int forme = 0; forme < 6; forme++) {
            due("path: forme(" + forme + ", 4)", x.forme(forme, 4), path[forme]);
        }
        due("path: presses", x.formes(4), 2);
        // A type on all formes: no two stand together.
        x = new StopPress();
        for (int forme = 5; forme >= 0; forme--) {
            x.see(0, forme, 0, 1);
        }
        due("six presses", x.formes(4), 6);
        for (int forme = 0; forme < 6; forme++) {
            due("six: forme(" + forme + ", 4)", x.forme(forme, 4), forme);
        }
        x = new StopPress();
        for (int forme = 0; forme < 6; forme++) {
            x.see(forme, forme, 0, 1);
        }
        due("one press", x.formes(4), 1);
        due("all together", x.forme(2, 2), 63 - 4);
    }

    private static void dueFormes(StopPress x, int... want) {
        for (int what = 0; what < 6; what++) {
            due("formes(" + what + ")", x.formes(what), want[what]);
        }
    }

    private static void formes() {
        promise = "21";
        StopPress x = new StopPress();
        dueFormes(x, 0, 1, 0, 0, 0, 0);
        x.see(3, 2, 0, 4);
        dueFormes(x, 1, 1, 0, 0, 1, 8);
        x.see(3, 5, 0, 4);
        dueFormes(x, 2, 2, 0, 0, 2, 8);
        x.see(0, 2, 1, 9);
        x.see(0, 5, 1, 8);
        dueFormes(x, 2, 1, 0, 0, 2, 9);
        x.see(1, 2, 2, 1);
        x.see(1, 5, 2, 8);
        dueFormes(x, 2, 0, 1, 4, 2, 11);
        x = new StopPress();
        for (int forme = 0; forme < 6; forme++) {
            x.see(forme, forme, 0, 1);
        }
        dueFormes(x, 6, 720, 0, 0, 1, 63);
        due("OUTSIDE", x.formes(6), OUTSIDE);
        for (int v : WILD) {
            due("formes(" + v + ")", x.formes(v), OUTSIDE);
        }
    }

    private static void faults() {
        promise = "21, faults";
        // Two types on all formes, with opposite wear: all but one of a type are wrong.
        StopPress x = new StopPress();
        for (int i = 0; i < 12; i++) {
            x.see(i / 6, i % 6, i / 6, i < 6 ? 1 + i : 12 - i);
        }
        dueFormes(x, 6, 0, 5, 31, 6, 3);
        // A cycle 0, 1, 2 by three types: leaving out any of its sightings breaks it; the smallest is 1.
        x = new StopPress();
        x.see(5, 5, 0, 1);
        x.see(0, 0, 0, 1);
        x.see(0, 1, 0, 2);
        x.see(1, 1, 1, 1);
        x.see(1, 2, 1, 2);
        x.see(2, 2, 2, 1);
        x.see(2, 0, 2, 2);
        dueFormes(x, 4, 0, 1, 2, 3, 39);
        // One sighting of a great number is fewer than two with smaller numbers.
        x = new StopPress();
        x.see(0, 0, 0, 1);
        x.see(0, 1, 0, 2);
        x.see(1, 0, 1, 1);
        x.see(1, 1, 1, 2);
        x.see(2, 1, 2, 1);
        x.see(2, 0, 2, 2);
        dueFormes(x, 2, 0, 1, 16, 2, 7);
    }

    private static void order() {
        promise = "22";
        StopPress x = new StopPress();
        due("no forme is seen", x.order(0), UNKNOWN);
        x.see(0, 4, 0, 1);
        x.see(0, 0, 0, 2);
        x.see(1, 2, 0, 1);
        x.see(2, 5, 0, 1);
        x.see(2, 1, 0, 6);
        // 4 before 0, 5 before 1, 2 free: 2 4 0 5 1
        int[] want = {2, 4, 0, 5, 1};
        for (int i = 0; i < want.length; i++) {
            due("order(" + i + ")", x.order(i), want[i]);
            due("index of " + want[i], x.forme(want[i], 3), i);
        }
        due("orders", x.formes(1), 30);
        due("order(5)", x.order(5), UNKNOWN);
        for (int v : WILD) {
            due("order(" + v + ")", x.order(v), UNKNOWN);
        }
        x.see(3, 0, 9, 1);
        x.see(3, 4, 9, 2);
        due("no order", x.order(0), UNKNOWN);
        // 4 before 0 before 1: the smallest forme is in the middle.
        x = new StopPress();
        x.see(0, 0, 0, 2);
        x.see(0, 4, 0, 1);
        x.see(1, 0, 1, 1);
        x.see(1, 1, 1, 2);
        due("order(0)", x.order(0), 4);
        due("order(1)", x.order(1), 0);
        due("order(2)", x.order(2), 1);
        due("4 is ahead of 0, seen first", x.forme(4, 1), 1);
        due("0 is ahead of 1", x.forme(0, 1), 2);
        due("no fault", x.formes(3), 0);
        x.see(2, 4, 2, 2);
        x.see(2, 0, 2, 1);
        due("the fault has sighting 0", x.formes(3), 1);
        due("presses", x.formes(4), 2);
    }

    private static void orderOfSix() {
        promise = "22, six formes";
        StopPress x = new StopPress();
        for (int forme = 0; forme < 6; forme++) {
            x.see(0, forme, 0, 9 - forme);
        }
        for (int forme = 0; forme < 6; forme++) {
            due("index of " + forme, x.forme(forme, 3), 5 - forme);
            due("order(" + forme + ")", x.order(forme), 5 - forme);
        }
        due("orders", x.formes(1), 1);
    }

    private static void whatWasDerived() {
        promise = "18, what was derived";
        StopPress x = new StopPress();
        x.see(0, 0, 0, 1);
        x.see(0, 1, 0, 2);
        due("0 is ahead of 1", x.forme(0, 1), 2);
        due("two presses", x.formes(4), 2);
        x.see(1, 3, 0, 2);
        x.unsee(0);
        due("0 is ahead of none", x.forme(0, 1), 0);
        due("0 is not seen", x.forme(0, 4), NONE);
        due("one press", x.formes(4), 1);
        due("orders", x.formes(1), 2);
        x.unsee(0);
        x.unsee(0);
        due("no forme is seen", x.formes(1), 1);
        due("no forme is seen", x.formes(4), 0);
        promise = "5, what was derived";
        x = with("ab", "ac", "ad");
        due("states", x.states(0), 3);
        type(x, "ab");
        x.correct(1);
        x.drop();
        due("states", x.states(0), 1);
        type(x, "ax");
        x.correct(1);
        x.band(0);
        due("states", x.states(0), 2);
    }

    private static void count() {
        promise = "23";
        StopPress x = with("abc", "abd");
        type(x, "abe");
        x.correct(1);
        x.correct(0);
        type(x, "qq!");
        x.copy();
        x.correct(0);
        x.drop();
        x.band(7);
        x.see(0, 0, 0, 1);
        x.see(0, 0, 0, 1);
        x.see(0, 1, 0, 1);
        x.unsee(0);
        x.unsee(5);
        int[] want = {1, 1, 3, 7, 3, 1};
        for (int what = 0; what < 6; what++) {
            due("count(" + what + ")", x.count(what), want[what]);
        }
        due("OUTSIDE", x.count(6), OUTSIDE);
        for (int v : WILD) {
            due("count(" + v + ")", x.count(v), OUTSIDE);
        }
    }

    private static long hash(long... values) {
        long h = 1607;
        for (long v : values) {
            h = 31 * h + v;
        }
        return h;
    }

    private static void digest() {
        promise = "24";
        StopPress x = new StopPress();
        due("new object", x.digest(), hash(
                0, 0, 0, 0, 0, 0,
                0, 0, 0, -1, -1, 0, 0, 0, -1, -1, 0, 0, 0, -1, -1,
                0, 0, 0, -1, -1, 0, 0, 0, -1, -1, 0, 0, 0, -1, -1,
                0, 1, 0, 0, 0, 0,
                0, 0, 0, 3, 0, 0));
        x = with("ab", "b", "abcdefg");
        x.see(1, 0, 2, 3);
        x.see(1, 5, 4, 2);
        x.unsee(0);
        x.see(1, 0, 2, 3);
        x.letter('~');
        due("an object in use", x.digest(), hash(
                2, 0, 0, 0, 0, 97, 98, 97, 98,
                1, 1, 2, 0, 1, 98, -1, 98,
                7, -1, -1, -1, -1, 97, 98, 99, 100, 101, 102, 103,
                2, 2, 1, 0, 0, 1, 0, -1, -1, -1, -1, -1, -1, -1, -1, -1, -1, -1, -1, -1, -1,
                2, 1, 1, 1, 0, 1,
                0, 1, -1, 0, 0, 0, 0, 1, 1, 0, 1, 1, 0, 1,
                1, 5, 4, 2, 1, 0, 2, 3,
                1, 0, 0, 1, 0, 0, 0, 0, -1, -1, 0, 0, 0, -1, -1,
                0, 0, 0, -1, -1, 0, 0, 0, -1, -1, 1, 1, 0, 0, 1,
                2, 1, 0, 0, 2, 2,
                5, 0,
                126,
                3, 2, 1, 3, 3, 1));
        due("the same again", x.digest(), x.digest());
    }

    private static void errorsChangeNothing() {
        promise = "errors";
        StopPress x = with("abcd", "abd", "abxd", "a", "bbbb", "abcdefg");
        for (int i = 0; i < 12; i++) {
            x.see(i / 6, i % 6, i / 6, 1 + i % 5);
        }
        type(x, "ab");
        long before = x.digest();
        x.letter(31);
        x.copy();
        x.correct(6);
        x.band(10);
        x.see(5, 5, 9, 1);
        x.see(0, 0, 9, 1);
        x.see(9, 9, 99, 99);
        x.unsee(12);
        x.unsee(-1);
        x.of(0, 9);
        x.collate(0, 0, 9);
        x.state(9, 9);
        x.forme(9, 9);
        due("digest", x.digest(), before);
        x.letter('!');
        long page = x.digest();
        x.correct(0);
        x.copy();
        due("digest", x.digest(), page);
    }
}
