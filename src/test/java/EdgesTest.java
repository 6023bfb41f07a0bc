import java.math.BigInteger;
import java.nio.file.Files;
import java.nio.file.Path;
import java.util.ArrayList;
import java.util.Arrays;
import java.util.List;
import java.util.Map;
import java.util.TreeMap;
import java.util.function.Supplier;
import java.util.function.ToIntFunction;

/**
 * The sentences of the document that name a boundary case, each with a test of its own. A test quotes its
 * sentence; at the end the quotes are looked up in the document, where no word that marks a boundary case may
 * be left outside them.
 */
public final class EdgesTest {
    private static final int NONE = -1, UNKNOWN = -101, OUTSIDE = -102, STATE = -103, FULL = -104;
    private static final int MIN = Integer.MIN_VALUE, MAX = Integer.MAX_VALUE;
    /** Letters of which no two are similar. */
    private static final String UNLIKE = "adgkmpqwxyz";
    private static final String LONG = "abcdefghijklmnopqrstuvwx";
    /** Where one of these stands in the document, there is a boundary case. */
    private static final String[] EDGE_WORDS = {
        "UNKNOWN", "OUTSIDE", "STATE", "FULL", "NONE", " if ", "at most", "from 0", "0 to ", "1 to ", "at first", "of several",
        "smallest", "greatest", "empt", "overflow", "less than"
    };

    private static final Map<String, List<String>> quotes = new TreeMap<>();
    private static String current = "";
    private static int sentences = 0;
    private static int askedOfSentence = 1;
    private static int asked = 0;
    private static int wrong = 0;

    public static void main(String[] args) throws Exception {
        calls512();
        errors();
        copies();
        bandAndLetters();
        alignments();
        bestAlignments();
        states();
        groups();
        trees();
        reversions();
        sightings();
        seenFormes();
        formes();
        orders();
        faults();
        standing();
        promise1();
        promise2();
        promise3();
        promise4();
        promise5();
        promise6();
        promise7();
        promise8();
        promise9();
        promise10();
        promise11();
        promise12();
        promise13();
        promise14();
        promise15();
        promise16();
        promise17();
        promise18();
        promise19();
        promise20();
        promise21();
        promise22();
        promise23();
        promise24();
        endOfSentence();
        Path document = Path.of("../shared/DOC.md");
        if (Files.isReadable(document)) {
            checkQuotes(Files.readString(document));
        } else {
            System.out.println("there is no document here in which the quotes can be looked up");
        }
        System.out.println(sentences + " sentences, " + asked + " answers asked, " + wrong + " wrong");
        if (wrong != 0) {
            System.exit(1);
        }
    }

    // ---- the means of the tests

    /** Begins the test of a sentence, which stands under this heading of the document. */
    private static void sentence(String heading, String quote) {
        endOfSentence();
        quotes.computeIfAbsent(heading, h -> new ArrayList<>()).add(quote);
        current = heading + ", '" + quote + "'";
        askedOfSentence = 0;
        sentences++;
    }

    private static void endOfSentence() {
        if (askedOfSentence == 0) {
            fail("nothing is asked");
        }
    }

    private static void fail(String text) {
        wrong++;
        System.out.println(current + ": " + text);
    }

    private static void due(String call, long got, long want) {
        asked++;
        askedOfSentence++;
        if (got != want) {
            fail(call + " answered " + got + ", due is " + want);
        }
    }

    private static void dueTrue(String text, boolean holds) {
        due(text, holds ? 1 : 0, 1);
    }

    private static void dueAll(String text, int[] got, int... want) {
        asked++;
        askedOfSentence++;
        if (!Arrays.equals(got, want)) {
            fail(text + " are " + Arrays.toString(got) + ", due are " + Arrays.toString(want));
        }
    }

    /** The call answers the code for each of the numbers. */
    private static void dueEach(String call, int[] numbers, int code, ToIntFunction<Integer> answer) {
        for (int v : numbers) {
            due(call + " with " + v, answer.applyAsInt(v), code);
        }
    }

    /** The answers for 0 to last. */
    private static int[] answers(int last, ToIntFunction<Integer> answer) {
        int[] got = new int[last + 1];
        for (int i = 0; i <= last; i++) {
            got[i] = answer.applyAsInt(i);
        }
        return got;
    }

    /**
     * Numbers that are not low to high: the next ones, the smallest and the greatest int, the error codes, and
     * such as are inside again if bits are lost, as in a shift or in a narrower type.
     */
    private static int[] outside(int low, int high) {
        List<Integer> all = new ArrayList<>(List.of(
                low - 1, high + 1, low - 2, high + 2, MIN, MIN + 1, MAX, MAX - 1, NONE, UNKNOWN, OUTSIDE, STATE, FULL,
                MIN + low, MIN + high, low - 32, high + 32, low + 32, low + 64, low + 256, low - 256, low + 65536, low - 65536));
        all.removeIf(v -> v >= low && v <= high);
        return all.stream().distinct().mapToInt(v -> v).toArray();
    }

    /** An object of the class, which is only promised to answer for 512 calls. */
    private static final class Press {
        private final StopPress x = new StopPress();
        private int calls = 0;

        private StopPress next() {
            calls++;
            if (calls > 512) {
                fail("the test calls an object more than 512 times");
            }
            return x;
        }

        int letter(int code) { return next().letter(code); }
        int blank() { return next().blank(); }
        int copy() { return next().copy(); }
        int correct(int copy) { return next().correct(copy); }
        int drop() { return next().drop(); }
        int band(int v) { return next().band(v); }
        int of(int copy, int what) { return next().of(copy, what); }
        int sign(int copy, int place) { return next().sign(copy, place); }
        int collate(int one, int other, int what) { return next().collate(one, other, what); }
        int step(int one, int other, int place) { return next().step(one, other, place); }
        int reading(int copy, int place) { return next().reading(copy, place); }
        int states(int what) { return next().states(what); }
        int state(int state, int what) { return next().state(state, what); }
        int far(int one, int other) { return next().far(one, other); }
        int turned(int state, int place) { return next().turned(state, place); }
        int see(int type, int forme, int spot, int wear) { return next().see(type, forme, spot, wear); }
        int unsee(int sighting) { return next().unsee(sighting); }
        int seen(int sighting, int what) { return next().seen(sighting, what); }
        int forme(int forme, int what) { return next().forme(forme, what); }
        int formes(int what) { return next().formes(what); }
        int order(int place) { return next().order(place); }
        int count(int what) { return next().count(what); }
        long digest() { return next().digest(); }

        Press type(String text) {
            for (char c : text.toCharArray()) {
                letter(c);
            }
            return this;
        }

        /** Sightings as rows of type, forme and wear; the spot is the type, so that no two are at one. */
        Press seeAll(int[]... rows) {
            for (int[] row : rows) {
                see(row[0], row[1], row[0], row[2]);
            }
            return this;
        }

        String steps(int one, int other) {
            StringBuilder text = new StringBuilder();
            int length = collate(one, other, 1);
            for (int i = 0; i < length; i++) {
                text.append(step(one, other, i));
            }
            return text.toString();
        }
    }

    private static Press with(String... words) {
        Press x = new Press();
        for (String word : words) {
            x.type(word).copy();
        }
        return x;
    }

    private static void dueSteps(Press x, int one, int other, String want) {
        String got = x.steps(one, other);
        dueTrue("steps " + one + ", " + other + " are " + got + ", due are " + want, got.equals(want));
    }

    /** Two copies and an excluded one, some sightings, two letters on the page. */
    private static Press some() {
        Press x = with("abcd", "abd", "abcdabcd").seeAll(new int[][] {{0, 0, 1}, {0, 1, 2}, {3, 4, 9}});
        return x.type("ab");
    }

    /** All that has a limit is at it; there is no order. */
    private static Press full() {
        Press x = with(LONG, LONG.substring(1), LONG.substring(3) + "a", "q", LONG + "", "z" + LONG.substring(1));
        fillSightings(x);
        return x.type(LONG);
    }

    /** Type k is on the formes k and k + 1 with the wears 1 and 2, round in a circle: 12 sightings. */
    private static Press fillSightings(Press x) {
        for (int k = 0; k < 6; k++) {
            x.see(k, k, 0, 1);
            x.see(k, (k + 1) % 6, 1, 2);
        }
        return x;
    }

    /** There are six copies of one state. */
    private static Press oneState() {
        return with("a", "a", "a", "a", "a", "a");
    }

    /** There are six states that differ from one another at all of the 24 places. */
    private static Press sixStates() {
        return with("a".repeat(24), "d".repeat(24), "g".repeat(24), "k".repeat(24), "m".repeat(24), "p".repeat(24));
    }

    /** All copies but copy 0 are excluded. */
    private static Press fiveExcluded() {
        return with("a", "aaaaa", "aaaaaa", "aaaaaaa", "aaaaaaaa", "aaaaaaaaa");
    }

    /** The states aaaaaa, dddaaa and adddda make a chain, at the end of which a comes back; copy 1 is excluded. */
    private static Press comingBack() {
        return with("aaaaaa", "aaaaaaaaaa", "dddaaa", "adddda", "dddaaa", "aaaaaa");
    }

    /** Type 0 is on all formes; the last one is the least worn. */
    private static Press chainBack() {
        Press x = new Press();
        for (int forme = 0; forme < 6; forme++) {
            x.see(0, forme, 0, 9 - forme);
        }
        return x;
    }

    /** Each forme has a type of its own. */
    private static Press sixFree() {
        Press x = new Press();
        for (int forme = 0; forme < 6; forme++) {
            x.see(forme, forme, 0, 1);
        }
        return x;
    }

    private static Press circle() {
        return fillSightings(new Press());
    }

    /** The only sighting was removed. */
    private static Press bare() {
        return removed(new Press().seeAll(new int[] {0, 3, 1}), 0);
    }

    /** All types are on forme 5. */
    private static Press allTypes() {
        Press x = new Press();
        for (int type = 0; type < 6; type++) {
            x.see(type, 5, type, 9);
        }
        return x;
    }

    private static Press oneSighting() {
        return new Press().seeAll(new int[] {5, 5, 9});
    }

    private static Press odd() {
        return some().type("!");
    }

    // ---- what is said of errors

    private static void calls512() {
        String heading = "What it is";
        sentence(heading, "An object is used for at most 512 calls after it has been made");
        Press x = new Press();
        x.letter('a');
        x.copy();
        for (int i = 0; i < 254; i++) {
            x.letter(i % 2 == 0 ? 'b' : 'a');
            due("correct(0), time " + i, x.correct(0), 1);
        }
        due("count(4)", x.count(4), 255);
        due("the 512th call", x.sign(0, 0), 'a');
        x = new Press();
        for (int i = 0; i < 255; i++) {
            x.see(i % 6, i % 5, i % 10, 1 + i % 9);
            due("unsee(0), time " + i, x.unsee(0), 0);
        }
        due("count(5)", x.count(5), 255);
        due("the 512th call", x.formes(1), 1);
        manyChanges();
    }

    /** What was derived is not taken for that of many changes ago, also if these were counted in few bits. */
    private static void manyChanges() {
        Press x = with("ab", "a");
        due("not excluded by the band 3", x.states(1), 0);
        for (int i = 0; i < 128; i++) {
            x.band(i % 2 == 0 ? 9 : 0);
        }
        due("excluded by the band 0", x.states(1), 1);
        for (int i = 0; i < 256; i++) {
            x.band(i % 2 == 0 ? 9 : 1);
        }
        due("not excluded by the band 1", x.states(1), 0);
        Press z = with("a", "a");
        due("one state", z.states(0), 1);
        for (int i = 0; i < 128; i++) {
            z.letter(i % 2 == 0 ? 'a' : 'd');
            z.correct(1);
        }
        due("two states", z.states(0), 2);
        Press y = circle();
        due("no order", y.formes(1), 0);
        due("the fault", y.formes(3), 1);
        for (int i = 0; i < 64; i++) {
            y.unsee(11);
            y.see(5, 0, 1, i < 63 ? 2 : 1);
        }
        due("one order", y.formes(1), 1);
        due("no fault", y.formes(3), 0);
        for (int i = 0; i < 128; i++) {
            y.unsee(11);
            y.see(5, 0, 1, 2);
        }
        due("no order again", y.formes(1), 0);
        due("the fault again", y.formes(3), 1);
    }

    private static void errors() {
        String heading = "Description";
        sentence(heading, "Error codes: UNKNOWN (-101): something with this number does not exist; OUTSIDE (-102):"
                + " an argument is out of range; STATE (-103): the call is not possible at present, as the method"
                + " says; FULL (-104): a limit is reached.");
        due("UNKNOWN", StopPress.UNKNOWN, -101);
        due("OUTSIDE", StopPress.OUTSIDE, -102);
        due("STATE", StopPress.STATE, -103);
        due("FULL", StopPress.FULL, -104);
        due("no such copy", some().sign(3, 0), -101);
        due("out of range", some().band(10), -102);
        due("not possible", new Press().drop(), -103);
        due("a limit", full().letter('a'), -104);

        sentence(heading, "If several of them apply to a call, the one that the method names first is returned.");
        firstCode();
        sentence(heading, "A call that returns an error code changes nothing.");
        changesNothing();

        sentence(heading, "NONE (-1) is not an error code; it means that there is no such value, and is returned"
                + " only if no error code applies.");
        due("NONE", StopPress.NONE, -1);
        due("copy 2 has no state", some().of(2, 1), -1);
        dueEach("of an excluded copy", new int[] {5, -1, MIN, MAX}, OUTSIDE, v -> some().of(2, v));
        dueEach("collate without an alignment", new int[] {7, -1, MIN, MAX}, OUTSIDE, v -> some().collate(0, 2, v));
        due("reading of an excluded copy", some().reading(2, 0), STATE);
        due("step without an alignment", some().step(0, 2, 0), UNKNOWN);
        due("state(0, 7)", some().state(0, 7), OUTSIDE);
        due("a forme that is not seen", some().forme(5, 5), OUTSIDE);
        due("order(0) without an order", full().order(0), UNKNOWN);
        due("order(0) without formes", new Press().order(0), UNKNOWN);

        sentence(heading, "Sets are bit masks: bit k is for number k.");
        Press x = new Press().seeAll(new int[][] {{0, 0, 1}, {0, 5, 2}, {5, 3, 1}});
        due("types 0 and 5", x.formes(5), 1 | 1 << 5);
        due("forme 0 is ahead of 5", x.forme(0, 1), 1 << 5);
        due("forme 3 stands with 0 and 5", x.forme(3, 2), 1 | 1 << 5);
        x = new Press().seeAll(new int[][] {{0, 0, 2}, {0, 5, 1}});
        due("forme 5 is ahead of 0", x.forme(5, 1), 1);
        due("the fault is sighting 11", onlyTheLastIsWrong().formes(3), 1 << 11);
    }

    /** 1 and 2 are behind 0 by types 0 and 1, but ahead of it by type 5, whose sighting on 0 is the last. */
    private static Press onlyTheLastIsWrong() {
        return new Press().seeAll(new int[][] {
            {0, 0, 1}, {0, 1, 2}, {1, 0, 1}, {1, 2, 2}, {5, 1, 1}, {5, 2, 1},
            {2, 0, 1}, {2, 1, 1}, {2, 2, 1}, {2, 3, 1}, {2, 4, 1}, {5, 0, 5}
        });
    }

    private static void firstCode() {
        dueEach("letter on a full page", outside(32, 126), OUTSIDE, v -> full().letter(v));
        due("copy: empty, and 6 copies", with("a", "a", "a", "a", "a", "a").copy(), STATE);
        due("copy: a wrong character, and 6 copies", with("a", "a", "a", "a", "a", "a").type("A").copy(), STATE);
        due("correct: no copy, and empty", with("a").correct(1), UNKNOWN);
        due("correct: no copy, and a wrong character", with("a").type("A").correct(-1), UNKNOWN);
        for (int what : new int[] {MIN, -1, 9, MAX}) {
            dueEach("of, what " + what, outside(0, 2), UNKNOWN, v -> some().of(v, what));
            dueEach("collate, what " + what, outside(0, 2), UNKNOWN, v -> some().collate(v, 0, what));
            dueEach("collate, what " + what, outside(0, 2), UNKNOWN, v -> some().collate(0, v, what));
            dueEach("state, what " + what, outside(0, 1), UNKNOWN, v -> some().state(v, what));
            dueEach("seen, what " + what, outside(0, 2), UNKNOWN, v -> some().seen(v, what));
            dueEach("forme, what " + what, outside(0, 5), UNKNOWN, v -> some().forme(v, what));
        }
        dueEach("reading: no place, and excluded", outside(0, 3), UNKNOWN, v -> some().reading(2, v));
        due("see: outside, and the type again", some().see(0, 0, 1, 10), OUTSIDE);
        due("see: outside, and the spot again", some().see(6, 0, 0, 1), OUTSIDE);
        due("see: outside, and full", full().see(2, 0, 10, 1), OUTSIDE);
        due("see: outside, the type again, and full", full().see(0, 0, -1, 1), OUTSIDE);
        due("see: the type again, and full", full().see(0, 0, 9, 1), STATE);
        due("see: the spot again, and full", full().see(3, 0, 0, 1), STATE);
    }

    /** The call answers the code, and the object is then as one on which it was not made. */
    private static void refused(Supplier<Press> maker, String name, int code, ToIntFunction<Press> call) {
        Press x = maker.get();
        due(name, call.applyAsInt(x), code);
        dueTheSame(name, x, maker.get());
        x = maker.get();
        x.digest();
        call.applyAsInt(x);
        dueTheSame(name + " after a digest", x, maker.get());
    }

    private static void dueTheSame(String name, Press x, Press twin) {
        due(name + ": digest", x.digest(), twin.digest());
        dueAll(name + ": steps", answers(47, i -> x.step(0, 1, i)), answers(47, i -> twin.step(0, 1, i)));
        due(name + ": next letter", x.letter('a'), twin.letter('a'));
        due(name + ": next sighting", x.see(5, 2, 9, 9), twin.see(5, 2, 9, 9));
        due(name + ": next copy", x.copy(), twin.copy());
        due(name + ": digest", x.digest(), twin.digest());
        due(name + ": drop", x.drop(), twin.drop());
        due(name + ": page", x.blank(), twin.blank());
        due(name + ": digest", x.digest(), twin.digest());
    }

    private static void changesNothing() {
        for (int v : new int[] {MIN, 31, 127, MAX}) {
            refused(EdgesTest::some, "letter(" + v + ")", OUTSIDE, x -> x.letter(v));
        }
        refused(EdgesTest::full, "letter('a')", FULL, x -> x.letter('a'));
        refused(Press::new, "copy()", STATE, Press::copy);
        refused(EdgesTest::odd, "copy()", STATE, Press::copy);
        refused(EdgesTest::full, "copy()", FULL, Press::copy);
        refused(() -> with("a", "b"), "correct(1)", STATE, x -> x.correct(1));
        refused(EdgesTest::odd, "correct(0)", STATE, x -> x.correct(0));
        refused(Press::new, "drop()", STATE, Press::drop);
        for (int v : new int[] {MIN, -1, 10, MAX}) {
            refused(EdgesTest::some, "band(" + v + ")", OUTSIDE, x -> x.band(v));
        }
        for (int v : new int[] {MIN, -1, 6, 12, MAX}) {
            changesNothingWith(v);
        }
        refused(EdgesTest::some, "see: the type again", STATE, x -> x.see(0, 0, 5, 3));
        refused(EdgesTest::some, "see: the spot again", STATE, x -> x.see(1, 0, 0, 3));
        refused(EdgesTest::full, "see", FULL, x -> x.see(3, 0, 5, 3));
        refused(EdgesTest::some, "unsee(3)", UNKNOWN, x -> x.unsee(3));
        refused(EdgesTest::some, "step without an alignment", UNKNOWN, x -> x.step(0, 2, 0));
        refused(EdgesTest::some, "reading of an excluded copy", STATE, x -> x.reading(2, 0));
        refused(EdgesTest::full, "order without an order", UNKNOWN, x -> x.order(0));
    }

    private static void changesNothingWith(int v) {
        refused(EdgesTest::some, "correct(" + v + ")", UNKNOWN, x -> x.correct(v));
        refused(EdgesTest::some, "of(" + v + ", 0)", UNKNOWN, x -> x.of(v, 0));
        refused(EdgesTest::some, "of(0, " + v + ")", OUTSIDE, x -> x.of(0, v));
        refused(EdgesTest::some, "sign(" + v + ", 0)", UNKNOWN, x -> x.sign(v, 0));
        refused(EdgesTest::some, "sign(0, " + v + ")", UNKNOWN, x -> x.sign(0, v));
        refused(EdgesTest::some, "collate(" + v + ", 0, 0)", UNKNOWN, x -> x.collate(v, 0, 0));
        refused(EdgesTest::some, "step(0, " + v + ", 0)", UNKNOWN, x -> x.step(0, v, 0));
        refused(EdgesTest::some, "step(0, 1, " + v + ")", UNKNOWN, x -> x.step(0, 1, v));
        refused(EdgesTest::some, "reading(" + v + ", 0)", UNKNOWN, x -> x.reading(v, 0));
        refused(EdgesTest::some, "reading(0, " + v + ")", UNKNOWN, x -> x.reading(0, v));
        refused(EdgesTest::some, "states(" + v + ")", OUTSIDE, x -> x.states(v));
        refused(EdgesTest::some, "state(" + v + ", 0)", UNKNOWN, x -> x.state(v, 0));
        refused(EdgesTest::some, "far(0, " + v + ")", UNKNOWN, x -> x.far(0, v));
        refused(EdgesTest::some, "turned(0, " + v + ")", UNKNOWN, x -> x.turned(0, v));
        refused(EdgesTest::some, "see(" + v + ", 0, 5, 1)", OUTSIDE, x -> x.see(v, 0, 5, 1));
        refused(EdgesTest::some, "see(5, " + v + ", 5, 1)", OUTSIDE, x -> x.see(5, v, 5, 1));
        refused(EdgesTest::some, "unsee(" + v + ")", UNKNOWN, x -> x.unsee(v));
        refused(EdgesTest::some, "seen(" + v + ", 0)", UNKNOWN, x -> x.seen(v, 0));
        refused(EdgesTest::some, "seen(0, " + v + ")", OUTSIDE, x -> x.seen(0, v));
        refused(EdgesTest::some, "forme(" + v + ", 0)", UNKNOWN, x -> x.forme(v, 0));
        refused(EdgesTest::some, "forme(0, " + v + ")", OUTSIDE, x -> x.forme(0, v));
        refused(EdgesTest::some, "formes(" + v + ")", OUTSIDE, x -> x.formes(v));
        refused(EdgesTest::some, "order(" + v + ")", UNKNOWN, x -> x.order(v));
        refused(EdgesTest::some, "count(" + v + ")", OUTSIDE, x -> x.count(v));
    }

    // ---- section 1

    private static void copies() {
        String heading = "Description";
        sentence(heading, "There are at most 6 copies, numbered from 0.");
        Press x = new Press();
        due("copy 0 is not there at first", x.of(0, 0), UNKNOWN);
        for (int i = 0; i < 6; i++) {
            x.type("ab");
            due("copy", x.copy(), i);
            due("of(" + i + ", 0)", x.of(i, 0), 2);
            due("of(" + (i + 1) + ", 0)", x.of(i + 1, 0), UNKNOWN);
        }
        x.type("ab");
        due("a seventh", x.copy(), FULL);
        due("copies", x.count(0), 6);

        sentence(heading, "A copy is a sequence of 1 to 24 letters a to z.");
        due("no letter", new Press().copy(), STATE);
        for (int code = 32; code <= 126; code++) {
            x = new Press();
            x.letter(code);
            due("a copy of the character " + code, x.copy(), code >= 'a' && code <= 'z' ? 0 : STATE);
        }
        Press y = with("a", "z", LONG, LONG.replace('a', 'z'));
        dueAll("lengths", answers(3, i -> y.of(i, 0)), 1, 1, 24, 24);
        due("the first letter of 24", y.sign(3, 0), 'z');
        due("the last letter of 24", y.sign(3, 23), 'x');
    }

    private static void bandAndLetters() {
        String heading = "Description";
        sentence(heading, "The band is 0 to 9, and 3 at first.");
        due("at first", new Press().count(3), 3);
        due("at first", new Press().band(5), 3);
        for (int v = 0; v <= 9; v++) {
            Press x = new Press();
            due("band(" + v + ")", x.band(v), 3);
            due("the band", x.count(3), v);
        }
        due("band(-1)", new Press().band(-1), OUTSIDE);
        due("band(10)", new Press().band(10), OUTSIDE);

        sentence(heading, "Two letters are similar if they are equal, or belong to the same one of these groups: i"
                + " j l; n u v; f s; c e o; b h; r t.");
        String[] groups = {"ijl", "nuv", "fs", "ceo", "bh", "rt"};
        for (char a = 'a'; a <= 'z'; a++) {
            Press x = with("" + a, "a");
            for (char b = 'a'; b <= 'z'; b++) {
                x.letter(b);
                x.correct(1);
                int kind = a == b ? 2 : 4;
                for (String group : groups) {
                    kind = a != b && group.indexOf(a) >= 0 && group.indexOf(b) >= 0 ? 3 : kind;
                }
                due(a + " and " + b, x.collate(0, 1, kind), 1);
            }
        }
    }

    private static void alignments() {
        String heading = "Description";
        sentence(heading, "An alignment of two copies, the first and the second one, is a sequence of steps until"
                + " no letter of either is left");
        Press x = with("abcd", "ab", "abcd");
        dueSteps(x, 0, 1, "0011");
        dueSteps(x, 1, 0, "0022");
        dueSteps(x, 0, 2, "0000");
        mostSteps();

        sentence(heading, "step 0 (pair) takes the next letter of each; it costs 0 if they are equal, 1 if they are"
                + " similar but not equal, else 3.");
        due("24 equal pairs", with(LONG, LONG).collate(0, 1, 0), 0);
        due("24 similar pairs", with("i".repeat(24), "l".repeat(24)).collate(0, 1, 0), 24);
        due("24 other pairs", with("a".repeat(24), "z".repeat(24)).collate(0, 1, 0), 72);
        dueSteps(with("a", "z"), 0, 1, "0");

        sentence(heading, "Step 1 (left out) takes the next letter of the first copy, and step 2 (added) takes the"
                + " next letter of the second copy; each costs 2.");
        due("one left out", with("ab", "a").collate(0, 1, 0), 2);
        due("one added", with("a", "ab").collate(0, 1, 0), 2);
        due("three left out", with("abcd", "d").collate(0, 1, 0), 6);
        due("three added", with("d", "abcd").collate(0, 1, 0), 6);
        dueSteps(with("abcd", "d"), 0, 1, "1110");
        dueSteps(with("d", "abcd"), 0, 1, "2220");
    }

    private static void bestAlignments() {
        String heading = "Description";
        sentence(heading, "Before each step and after the last one, the numbers of letters that have been taken"
                + " from the two copies differ by at most the band.");
        for (int band = 1; band <= 9; band++) {
            shiftedBy(band);
        }
        Press x = with("xadg", "adgx");
        x.band(0);
        dueSteps(x, 0, 1, "0000");
        due("pairs alone", x.collate(0, 1, 0), 12);

        sentence(heading, "The best alignment is the one with the smallest sum of costs; of several the"
                + " lexicographically smallest sequence of steps.");
        x = with("aa", "a", "ab", "ba", "xk", "aaaa");
        dueSteps(x, 0, 1, "01");
        dueSteps(x, 1, 0, "02");
        dueSteps(x, 2, 3, "102");
        dueSteps(x, 3, 2, "102");
        dueSteps(x, 4, 1, "01");
        dueSteps(x, 1, 4, "02");
        dueSteps(x, 5, 1, "0111");
        dueSteps(with("apa", "a"), 0, 1, "011");
        dueSteps(with("iil", "il"), 0, 1, "010");
        dueSteps(with("ijl", "jl"), 0, 1, "100");

        sentence(heading, "There is none exactly if the lengths of the copies differ by more than the band.");
        for (int band = 0; band <= 9; band++) {
            differBy(band, 24, 24 - band, 24 - band - 1);
            differBy(band, 1, 1 + band, 1 + band + 1);
        }
    }

    /**
     * Nine letters left out, four pairs, seventeen added, three pairs, eight left out: 68, where pairs alone cost 72,
     * and pairs from the first four or up to the last three equal ones cost 69 and 71.
     */
    private static void mostSteps() {
        Press x = with("a".repeat(9) + "gkmp" + "xyz" + "d".repeat(8), "gkmp" + "q".repeat(17) + "xyz");
        x.band(9);
        dueAll("tallies", answers(6, what -> x.collate(0, 1, what)), 68, 41, 7, 0, 0, 17, 17);
        dueSteps(x, 0, 1, "1".repeat(9) + "0000" + "2".repeat(17) + "000" + "1".repeat(8));
        dueSteps(x, 1, 0, "2".repeat(9) + "0000" + "1".repeat(17) + "000" + "2".repeat(8));
        due("the last step", x.step(0, 1, 40), 1);
        due("no step more", x.step(0, 1, 41), UNKNOWN);
    }

    /** The letters of the second copy stand by the band further left, and those of the first one further right. */
    private static void shiftedBy(int band) {
        String middle = UNLIKE.substring(0, 9).repeat(2).substring(0, 15);
        Press x = with("y".repeat(band) + middle, middle + "z".repeat(band));
        x.band(band);
        String before = "1".repeat(band);
        String pairs = "0".repeat(15);
        String behind = "2".repeat(band);
        dueSteps(x, 0, 1, before + pairs + behind);
        dueSteps(x, 1, 0, behind + pairs + before);
        due("cost with the band " + band, x.collate(0, 1, 0), 4 * band);
        x.band(band - 1);
        dueTrue("the band " + (band - 1) + " is too narrow", x.collate(0, 1, 0) > 4 * band);
        dueTrue("the band " + (band - 1) + " is too narrow", x.collate(1, 0, 0) > 4 * band);
    }

    /** The first two lengths differ by the band, the first and the third one by one more. */
    private static void differBy(int band, int one, int other, int third) {
        Press x = with("a".repeat(one), "a".repeat(other), "a".repeat(third));
        x.band(band);
        String name = "the band " + band + ", lengths " + one + " and " + other;
        due(name, x.collate(0, 1, 0), 2 * band);
        due(name, x.collate(1, 0, 0), 2 * band);
        due(name + ", and one more", x.collate(0, 2, 0), NONE);
        due(name + ", and one more", x.collate(2, 0, 0), NONE);
        due(name + ": excluded", x.states(1), 1);
    }

    // ---- section 2

    private static void states() {
        String heading = "Description";
        sentence(heading, "The places are the indices of the letters of copy 0, from 0.");
        Press x = with("ab", "abcd");
        dueAll("readings of the longer copy", answers(3, p -> x.reading(1, p)), 'a', 'b', UNKNOWN, UNKNOWN);
        due("place -1", x.reading(1, -1), UNKNOWN);
        Press y = with("abcd", "ab");
        dueAll("readings of the shorter copy", answers(4, p -> y.reading(1, p)), 'a', 'b', NONE, NONE, UNKNOWN);
        Press z = with(LONG);
        due("the place 23", z.reading(0, 23), 'x');
        due("the place 24", z.reading(0, 24), UNKNOWN);

        sentence(heading, "The reading of a copy at a place is, by the best alignment of copy 0 (as the first one)"
                + " and this copy (as the second one), the letter that is paired with the letter at this place, or"
                + " no letter, if that one is left out. (Added letters do not matter for readings.)");
        Press r = with("aa", "a", "xaya", "ab", "ba");
        dueAll("a", answers(1, p -> r.reading(1, p)), 'a', NONE);
        dueAll("xaya", answers(1, p -> r.reading(2, p)), 'a', 'a');
        Press s = with("ab", "ba");
        // left out, paired, added: by the other direction the place 0 would have the letter
        dueAll("ba by ab", answers(1, p -> s.reading(1, p)), NONE, 'b');
        due("an excluded copy's letters do not count", with("a", "aaaaaa").states(0), 1);

        sentence(heading, "A copy is excluded if there is no such alignment.");
        Press e = with("aaaa", "a", "aaaaaaa", "aaaaaaaa");
        dueAll("by the band 3", answers(3, c -> e.of(c, 1)), 0, 1, 0, NONE);
        e.band(2);
        dueAll("by the band 2", answers(3, c -> e.of(c, 1)), 0, NONE, NONE, NONE);
        e.band(0);
        dueAll("by the band 0", answers(3, c -> e.of(c, 1)), 0, NONE, NONE, NONE);
        e.band(4);
        dueAll("by the band 4", answers(3, c -> e.of(c, 1)), 0, 1, 0, 0);
    }

    private static void groups() {
        String heading = "Description";
        sentence(heading, "Copies that are not excluded and have the same reading at each place belong to the same"
                + " state.");
        Press g = with("abc", "abcx", "xabc", "ab", "abz", "abcdefgh");
        dueAll("states", answers(5, c -> g.of(c, 1)), 0, 0, 0, 1, 2, NONE);
        Press h = with("abc", "ac", "axc", "ac");
        dueAll("no letter is the same as no letter", answers(3, c -> h.of(c, 1)), 0, 1, 2, 1);
        Press last = with(LONG, LONG.substring(0, 23) + "z", "z" + LONG.substring(1));
        dueAll("one place of 24 differs", answers(2, c -> last.of(c, 1)), 0, 1, 2);

        sentence(heading, "States are numbered from 0 in the order of their first copies; so copy 0 belongs to"
                + " state 0.");
        Press n = with("aa", "aaaaaa", "ab", "aa", "ax", "ab");
        dueAll("states", answers(5, c -> n.of(c, 1)), 0, NONE, 1, 0, 2, 1);
        dueAll("first copies", answers(3, v -> n.state(v, 0)), 0, 2, 4, UNKNOWN);
        Press six = with("aa", "ab", "ac", "ad", "ae", "af");
        dueAll("six states", answers(6, v -> six.state(v, 0)), 0, 1, 2, 3, 4, 5, UNKNOWN);

        sentence(heading, "The distance of two states is the number of places where their readings are different"
                + " (no letter is also different from a letter).");
        Press d = with("adgk", "agk", "axgk", "zyxw");
        dueAll("from state 1", answers(3, v -> d.far(1, v)), 1, 0, 1, 4);
        due("all 24 places", with("a".repeat(24), "z".repeat(24)).far(0, 1), 24);
        due("no letters at 9 places", withBand(9, "a".repeat(24), "a".repeat(15)).far(0, 1), 9);
        due("it has no sign", d.far(3, 1), 4);
    }

    private static Press withBand(int band, String... words) {
        Press x = with(words);
        x.band(band);
        return x;
    }

    private static void trees() {
        String heading = "Description";
        sentence(heading, "The states are connected by a tree: at first only state 0 belongs to it. Then, again and"
                + " again, until all states belong to it, of all pairs of a state U in the tree and a state V not"
                + " in it, the pair with the smallest distance is taken (of several the one with the smallest U,"
                + " then with the smallest V); V belongs to the tree then, and U is its parent.");
        Press alone = with("a");
        dueAll("state 0 alone", answers(6, what -> alone.state(0, what)), 0, 1, NONE, 0, 0, 0, 0);
        // 1 and 2 are both 2 from 0 and from one another: 0 is the smallest U, then 1 the smallest V.
        Press ties = with("aaaa", "ddaa", "dada");
        dueAll("parents", answers(2, v -> ties.state(v, 2)), NONE, 0, 0);
        dueAll("indices", answers(2, v -> ties.state(v, 6)), 0, 1, 2);
        // After 2 (1 from 0), 1 is 1 from it, and 3 is 1 from 0: the smallest U is 0, though 1 is the smaller V.
        Press smallU = with("aaaa", "ddaa", "daaa", "aaad");
        dueAll("parents", answers(3, v -> smallU.state(v, 2)), NONE, 2, 0, 0);
        dueAll("indices", answers(3, v -> smallU.state(v, 6)), 0, 3, 1, 2);
        // 1 and 2 are 2 from 0 and from one another; 3, 4 and 5 are each 1 from the one before, so 2 comes last.
        Press chain = with("aaaaaa", "dgaaaa", "gdaaaa", "dgkaaa", "dgkmaa", "dgkmpa");
        dueAll("parents", answers(5, v -> chain.state(v, 2)), NONE, 0, 0, 1, 3, 4);
        dueAll("indices", answers(5, v -> chain.state(v, 6)), 0, 1, 5, 2, 3, 4);

        sentence(heading, "The ancestors of a state are its parent, the parent of this one, and so on up to state"
                + " 0.");
        dueAll("numbers of ancestors", answers(5, v -> chain.state(v, 4)), 0, 1, 1, 2, 3, 4);
        Press longest = with("aaaaa", "daaaa", "ddaaa", "dddaa", "dddda", "ddddd");
        dueAll("a chain of six", answers(5, v -> longest.state(v, 4)), 0, 1, 2, 3, 4, 5);
    }

    private static void reversions() {
        String heading = "Description";
        sentence(heading, "A place is reverted at a state if the reading there is different from that of its"
                + " parent, but equal to that of some ancestor of its parent.");
        // 0 - 1 - 2 - 3: the last place has w, no letter, z, no letter.
        Press x = with("adgkmpqw", "xxgkmpq", "xxyympqz", "xxyyzpq");
        dueAll("parents", answers(3, v -> x.state(v, 2)), NONE, 0, 1, 2);
        dueAll("no letter comes back", answers(7, p -> x.turned(3, p)), 0, 0, 0, 0, 0, 0, 0, 1);
        dueAll("a new letter", answers(7, p -> x.turned(2, p)), 0, 0, 0, 0, 0, 0, 0, 0);
        // 0 - 1 - 2: the last place has w, no letter, w.
        Press y = with("adgkmpqw", "xxgkmpq", "xxyympqw");
        dueAll("parents", answers(2, v -> y.state(v, 2)), NONE, 0, 1);
        dueAll("a letter comes back", answers(7, p -> y.turned(2, p)), 0, 0, 0, 0, 0, 0, 0, 1);
        // a, d, d, d, d, a: state 0's letter comes back at the end of the longest chain.
        Press z = with("aaaaaaaaaaaaa", "ddaaaaaaaaaaa", "ddggaaaaaaaaa", "ddggkkaaaaaaa", "ddggkkmmaaaaa", "adggkkmmppaaa");
        dueAll("parents", answers(5, v -> z.state(v, 2)), NONE, 0, 1, 2, 3, 4);
        due("the place 0", z.turned(5, 0), 1);
        due("one place in all", z.states(4), 1);
        due("the parent has no ancestor", with("aa", "da").turned(1, 0), 0);
        due("state 0 has no parent", with("aa", "da").turned(0, 0), 0);
        Press end = with("a".repeat(24), "ddd" + "a".repeat(20) + "d", "dddgg" + "a".repeat(19));
        due("the place 23", end.turned(2, 23), 1);
    }

    // ---- section 3

    private static void sightings() {
        String heading = "Description";
        sentence(heading, "There are 6 types and 6 formes, each numbered 0 to 5.");
        for (int type = 0; type < 6; type++) {
            Press x = new Press();
            for (int forme = 0; forme < 6; forme++) {
                due("type " + type + " on forme " + forme, x.see(type, forme, 0, 1), forme);
            }
        }
        due("type 6", new Press().see(6, 0, 0, 1), OUTSIDE);
        due("type -1", new Press().see(-1, 0, 0, 1), OUTSIDE);
        due("forme 6", new Press().see(0, 6, 0, 1), OUTSIDE);
        due("forme -1", new Press().see(0, -1, 0, 1), OUTSIDE);

        sentence(heading, "There are at most 12 sightings, numbered from 0.");
        Press x = circle();
        due("sightings", x.count(1), 12);
        due("the twelfth's forme", x.seen(11, 1), 0);
        due("a thirteenth", x.see(3, 0, 9, 1), FULL);
        due("seen(12, 0)", x.seen(12, 0), UNKNOWN);

        sentence(heading, "A sighting says that a type was seen on a forme at a spot (0 to 9), with a wear (1 to"
                + " 9).");
        for (int v = 0; v <= 9; v++) {
            Press y = new Press();
            due("spot " + v, y.see(0, 0, v, 1), 0);
            due("spot " + v, y.seen(0, 2), v);
            due("wear " + v, y.see(1, 1, 0, v), v == 0 ? OUTSIDE : 1);
            due("wear " + v, y.seen(1, 3), v == 0 ? UNKNOWN : v);
        }
        due("spot 10", new Press().see(0, 0, 10, 1), OUTSIDE);
        due("spot -1", new Press().see(0, 0, -1, 1), OUTSIDE);
        due("wear 10", new Press().see(0, 0, 0, 10), OUTSIDE);
        due("wear -1", new Press().see(0, 0, 0, -1), OUTSIDE);
    }

    private static void seenFormes() {
        String heading = "Description";
        sentence(heading, "On one forme, no type is in two sightings, and no spot is in two sightings.");
        Press y = new Press();
        y.see(0, 0, 0, 1);
        due("the type and the spot again", y.see(0, 0, 0, 1), STATE);
        due("the type again", y.see(0, 0, 1, 1), STATE);
        due("the spot again", y.see(1, 0, 0, 1), STATE);
        due("another type at another spot", y.see(1, 0, 1, 1), 1);
        due("the type of one, the spot of the other", y.see(0, 0, 1, 1), STATE);
        due("the same on another forme", y.see(0, 1, 0, 1), 2);
        y.unsee(0);
        due("after unsee the type and the spot are free", y.see(0, 0, 0, 9), 2);

        sentence(heading, "A forme is seen if there is a sighting of it.");
        Press z = new Press();
        due("none", z.formes(0), 0);
        z.see(0, 5, 0, 1);
        z.see(1, 5, 1, 1);
        due("forme 5", z.formes(0), 1);
        z.unsee(0);
        due("one sighting is left", z.formes(0), 1);
        z.unsee(0);
        due("none is left", z.formes(0), 0);
        due("all", circle().formes(0), 6);
    }

    private static void formes() {
        String heading = "Description";
        sentence(heading, "A forme is ahead of another one if some type has a smaller wear on it than on that one.");
        due("the same wear", new Press().seeAll(new int[][] {{0, 0, 5}, {0, 1, 5}}).forme(0, 1), 0);
        due("wear 4 and 5", new Press().seeAll(new int[][] {{0, 0, 4}, {0, 1, 5}}).forme(0, 1), 2);
        due("wear 6 and 5", new Press().seeAll(new int[][] {{0, 0, 6}, {0, 1, 5}}).forme(0, 1), 0);
        due("wear 1 and 9", new Press().seeAll(new int[][] {{0, 0, 1}, {0, 1, 9}}).forme(0, 1), 2);
        due("other types", new Press().seeAll(new int[][] {{0, 0, 1}, {1, 1, 9}}).forme(0, 1), 0);
        Press each = new Press().seeAll(new int[][] {{0, 0, 1}, {0, 1, 2}, {1, 1, 1}, {1, 0, 2}});
        dueAll("each is ahead of the other", answers(1, f -> each.forme(f, 1)), 2, 1);
        Press all = new Press();
        for (int forme = 0; forme < 6; forme++) {
            all.see(0, forme, 0, 1 + forme);
        }
        dueAll("one type on all", answers(5, f -> all.forme(f, 1)), 62, 60, 56, 48, 32, 0);
        // 0 before 1 by type 0, 1 before 2 by type 1: this does not put 0 ahead of 2.
        Press chain = new Press().seeAll(new int[][] {{0, 0, 1}, {0, 1, 2}, {1, 1, 1}, {1, 2, 2}});
        dueAll("not by way of others", answers(2, f -> chain.forme(f, 1)), 2, 4, 0);
    }

    private static void orders() {
        String heading = "Description";
        sentence(heading, "An order is a sequence of all seen formes in which each forme that is ahead of another"
                + " one comes before that one.");
        due("no forme: the empty one", new Press().formes(1), 1);
        due("one forme", new Press().seeAll(new int[] {0, 5, 1}).formes(1), 1);
        due("a chain of six", chainBack().formes(1), 1);
        due("a circle of six", circle().formes(1), 0);
        due("a circle of two", new Press().seeAll(new int[][] {{0, 0, 1}, {0, 1, 2}, {1, 1, 1}, {1, 0, 2}}).formes(1), 0);
        Press free = sixFree();
        due("six free ones", free.formes(1), 720);
        Press chain = new Press().seeAll(new int[][] {{0, 0, 1}, {0, 1, 2}, {1, 1, 1}, {1, 2, 2}});
        due("a chain of three", chain.formes(1), 1);
        due("with a free forme", chain.seeAll(new int[] {5, 5, 1}).formes(1), 4);

        sentence(heading, "The first order is the lexicographically smallest one.");
        dueAll("six free ones", answers(6, free::order), 0, 1, 2, 3, 4, 5, UNKNOWN);
        dueAll("a chain back", answers(6, chainBack()::order), 5, 4, 3, 2, 1, 0, UNKNOWN);
        Press late = new Press().seeAll(new int[][] {{0, 5, 1}, {0, 0, 2}, {1, 3, 1}, {2, 1, 1}});
        dueAll("5 before 0", answers(4, late::order), 1, 3, 5, 0, UNKNOWN);
    }

    private static void faults() {
        String heading = "Description";
        sentence(heading, "The fault is the smallest set of sightings such that, if they are left out, there is an"
                + " order by the other sightings (of the formes that are seen by those); of several with the fewest"
                + " sightings the smallest int.");
        // 0 before 1 by the sightings 0 3 and 6 7, 1 before 0 by 1 4 and 2 5: so 1 and 2, as 6 is less than 65.
        Press two = new Press().seeAll(new int[][] {
            {0, 1, 6}, {1, 1, 7}, {3, 0, 5}, {0, 0, 3}, {1, 0, 8}, {3, 1, 4}, {2, 1, 8}, {2, 0, 6}
        });
        due("the fault", two.formes(3), 6);
        due("its sightings", two.formes(2), 2);
        due("a circle of six", circle().formes(3), 1);
        due("one with a great number, not two with small ones", onlyTheLastIsWrong().formes(3), 2048);
        due("its sightings", onlyTheLastIsWrong().formes(2), 1);
        // Both types are on all formes, once forth and once back: of one type all but one must go.
        Press both = new Press();
        for (int i = 0; i < 12; i++) {
            both.see(i / 6, i % 6, i / 6, i < 6 ? 1 + i : 12 - i);
        }
        due("five of six", both.formes(3), 31);
        due("its sightings", both.formes(2), 5);
        due("two circles of two", new Press().seeAll(new int[][] {
            {0, 0, 1}, {0, 1, 2}, {1, 0, 2}, {1, 1, 1}, {2, 2, 1}, {2, 3, 2}, {3, 2, 2}, {3, 3, 1}
        }).formes(3), 1 | 1 << 4);

        sentence(heading, "(It is empty if there is an order.)");
        due("no sighting", new Press().formes(3), 0);
        due("no sighting", new Press().formes(2), 0);
        due("an order", some().formes(3), 0);
        due("an order", some().formes(2), 0);
        Press mended = circle();
        due("no order", mended.formes(2), 1);
        mended.unsee(11);
        due("an order again", mended.formes(3), 0);
        mended.see(5, 0, 1, 2);
        due("no order again", mended.formes(3), 1);
        mended.unsee(11);
        mended.see(5, 0, 1, 1);
        due("an order by another wear", mended.formes(3), 0);
        Press emptied = circle();
        due("no order", emptied.formes(3), 1);
        for (int left = 11; left >= 0; left--) {
            emptied.unsee(left);
        }
        due("no sighting is left", emptied.formes(3), 0);
        due("no sighting is left", emptied.formes(2), 0);
    }

    private static void standing() {
        String heading = "Description";
        sentence(heading, "Two different seen formes can stand together if no type was seen on both.");
        Press x = new Press().seeAll(new int[][] {{0, 0, 1}, {1, 0, 1}, {1, 1, 1}, {2, 2, 1}, {0, 3, 9}});
        dueAll("companions", answers(5, f -> x.forme(f, 2)), 1 << 2, 1 << 2 | 1 << 3, 1 | 2 | 1 << 3, 2 | 1 << 2, 0, 0);
        due("one forme alone", new Press().seeAll(new int[] {0, 3, 1}).forme(3, 2), 0);
        Press free = sixFree();
        dueAll("all together", answers(5, f -> free.forme(f, 2)), 62, 61, 59, 55, 47, 31);

        sentence(heading, "The presses are numbered from 0; each seen forme is assigned to a press, so that any two"
                + " formes on the same press can stand together, with as few presses as possible; of several ways"
                + " the one in which the seen forme with the smallest number has the press with the smallest"
                + " number, then the next forme, and so on.");
        due("no forme, no press", new Press().formes(4), 0);
        dueAll("one press for all", answers(5, f -> free.forme(f, 4)), 0, 0, 0, 0, 0, 0);
        due("one press", free.formes(4), 1);
        Press one = new Press();
        for (int forme = 0; forme < 6; forme++) {
            one.see(5, forme, 0, 1);
        }
        dueAll("six presses", answers(5, f -> one.forme(f, 4)), 0, 1, 2, 3, 4, 5);
        due("six presses", one.formes(4), 6);
        Press circle = circle();
        dueAll("a circle of six", answers(5, f -> circle.forme(f, 4)), 0, 1, 0, 1, 0, 1);
        // The path 0 - 2 - 3 - 1: with two presses 1 cannot be on press 0.
        Press path = new Press().seeAll(new int[][] {{0, 0, 1}, {0, 2, 1}, {1, 2, 1}, {1, 3, 1}, {2, 3, 1}, {2, 1, 1}});
        dueAll("a path", answers(5, f -> path.forme(f, 4)), 0, 1, 1, 0, NONE, NONE);
        due("two presses", path.formes(4), 2);
        Press high = new Press().seeAll(new int[][] {{0, 3, 1}, {0, 5, 1}});
        dueAll("3 and 5 alone", answers(5, f -> high.forme(f, 4)), NONE, NONE, NONE, 0, NONE, 1);
        // A circle of five needs three.
        Press five = new Press();
        for (int k = 0; k < 5; k++) {
            five.see(k, k, 0, 1);
            five.see(k, (k + 1) % 5, 1, 1);
        }
        dueAll("a circle of five", answers(5, f -> five.forme(f, 4)), 0, 1, 0, 1, 2, NONE);
        due("three presses", five.formes(4), 3);
    }

    // ---- the promises

    private static void promise1() {
        String heading = "Promise 1";
        sentence(heading, "Creates an object without copies and sightings, with an empty page and the band 3.");
        Press x = new Press();
        dueAll("count", answers(5, x::count), 0, 0, 0, 3, 0, 0);
        dueAll("states", answers(5, x::states), 0, 0, 0, 0, 0, 0);
        dueAll("formes", answers(5, x::formes), 0, 1, 0, 0, 0, 0);
        due("copy 0", x.of(0, 0), UNKNOWN);
        due("state 0", x.state(0, 0), UNKNOWN);
        due("sighting 0", x.seen(0, 0), UNKNOWN);
        due("page", x.blank(), 0);
        due("another object is not touched", untouchedBeside(full()), new Press().digest());
    }

    private static void promise2() {
        String heading = "Promise 2";
        sentence(heading, "Appends a character, given by its code, to the page. @return how many characters the"
                + " page has then");
        Press page = new Press();
        dueAll("letters", answers(23, i -> page.letter(LONG.charAt(i))), answers(23, i -> i + 1));
        page.copy();
        dueAll("they are in their order", answers(23, i -> page.sign(0, i)), answers(23, i -> LONG.charAt(i)));
        sentence(heading, "OUTSIDE if code is not 32 to 126");
        due("letter(32)", new Press().letter(32), 1);
        due("letter(126)", new Press().letter(126), 1);
        due("letter(31)", new Press().letter(31), OUTSIDE);
        due("letter(127)", new Press().letter(127), OUTSIDE);
        dueEach("letter", outside(32, 126), OUTSIDE, v -> new Press().letter(v));
        sentence(heading, "FULL if it has 24");
        Press line = new Press().type(LONG.substring(1));
        due("the letter 24", line.letter('a'), 24);
        due("the letter 25", line.letter('a'), FULL);
        due("the letter 25 again", line.letter(32), FULL);
        due("the page", line.blank(), 24);
        due("after blank", line.letter('a'), 1);
    }

    private static void promise3() {
        String heading = "Promise 3";
        sentence(heading, "Empties the page. @return how many characters it had.");
        Press y = new Press();
        due("an empty page", y.blank(), 0);
        due("an empty page again", y.blank(), 0);
        due("one character", y.type(" ").blank(), 1);
        due("it is empty then", y.count(2), 0);
        due("24 characters", y.type("~".repeat(24)).blank(), 24);
        due("the next letter is the first", y.letter('a'), 1);
        y.copy();
        due("nothing of the page before", y.of(0, 0), 1);
    }

    private static void promise6() {
        String heading = "Promise 6";
        sentence(heading, "Removes the copy with the greatest number. @return how many copies are left");
        Press d = with("a", "ab", "abc", "abcd", "abc", "ab");
        for (int left = 5; left >= 0; left--) {
            due("drop()", d.drop(), left);
            due("the copy " + left, d.of(left, 0), UNKNOWN);
            due("the copy before it", d.of(left - 1, 0), new int[] {UNKNOWN, 1, 2, 3, 4, 3}[left]);
        }
        due("the page stays", dropFrom(some()).blank(), 2);
        due("count(4) stays", dropFrom(some()).count(4), 3);
        due("the next copy has its number", dropFrom(some()).copy(), 2);
        sentence(heading, "STATE if there are none");
        due("a new object", new Press().drop(), STATE);
        due("after the last one", d.drop(), STATE);
        due("a page alone is none", new Press().type("a").drop(), STATE);
    }

    private static void promise7() {
        String heading = "Promise 7";
        sentence(heading, "Sets the band to v. @return the band before the call");
        Press b = new Press();
        int before = 3;
        for (int v : new int[] {0, 9, 9, 0, 5, 1}) {
            due("band(" + v + ")", b.band(v), before);
            before = v;
        }
        sentence(heading, "OUTSIDE if v is not 0 to 9");
        due("band(0)", new Press().band(0), 3);
        due("band(9)", new Press().band(9), 3);
        dueEach("band", outside(0, 9), OUTSIDE, v -> new Press().band(v));
    }

    private static long untouchedBeside(Press busy) {
        Press x = new Press();
        busy.unsee(0);
        busy.blank();
        return x.digest();
    }

    private static Press dropFrom(Press x) {
        x.drop();
        return x;
    }

    private static void promise4() {
        String heading = "Promise 4";
        sentence(heading, "Adds the page as a copy, and empties the page. @return the number of the copy");
        Press x = new Press();
        dueAll("copies", answers(5, i -> x.type(LONG.substring(i)).copy()), 0, 1, 2, 3, 4, 5);
        due("the page is empty", x.count(2), 0);
        dueAll("lengths", answers(5, i -> x.of(i, 0)), 24, 23, 22, 21, 20, 19);
        x.type("z");
        due("the page does not touch the copies", x.sign(0, 0), 'a');
        sentence(heading, "STATE if the page is empty or has a character other than a to z");
        due("a new object", new Press().copy(), STATE);
        due("after a copy", with("a").copy(), STATE);
        due("after blank", blanked("a").copy(), STATE);
        for (char c : new char[] {' ', '@', 'A', 'Z', '[', '`', '{', '~', '0'}) {
            for (int at : new int[] {0, 11, 23}) {
                Press y = new Press().type(LONG.substring(0, at) + c + LONG.substring(at + 1));
                due(c + " at " + at, y.copy(), STATE);
                due("the page stays", y.count(2), 24);
            }
        }
        sentence(heading, "FULL if there are 6 copies");
        due("5 copies", with("a", "a", "a", "a", "a").type("a").copy(), 5);
        Press y = with("a", "a", "a", "a", "a", "a").type("a");
        due("6 copies", y.copy(), FULL);
        due("the page stays", y.count(2), 1);
        y.drop();
        due("after drop", y.copy(), 5);
    }

    private static Press blanked(String text) {
        Press x = new Press().type(text);
        x.blank();
        return x;
    }

    private static void promise5() {
        String heading = "Promise 5";
        sentence(heading, "Replaces a copy by the page, and empties the page. @return how many letters the copy had"
                + " before");
        Press x = with(LONG, "a", "abc");
        due("24 letters before", x.type("z").correct(0), 24);
        due("the page is empty", x.count(2), 0);
        due("one letter before", x.type(LONG).correct(1), 1);
        due("the last copy", x.type("qq").correct(2), 3);
        dueAll("lengths", answers(3, i -> x.of(i, 0)), 1, 24, 2, UNKNOWN);
        due("of the old copy nothing is left", x.sign(0, 1), UNKNOWN);
        due("with 6 copies", with("a", "a", "a", "a", "a", "a").type("b").correct(5), 1);
        sentence(heading, "UNKNOWN if there is no such copy");
        due("no copy", new Press().type("a").correct(0), UNKNOWN);
        dueEach("correct", outside(0, 2), UNKNOWN, v -> some().correct(v));
        due("a copy that was dropped", dropFrom(some()).correct(2), UNKNOWN);
        dueEach("correct", outside(0, 5), UNKNOWN, v -> full().correct(v));
        sentence(heading, "STATE if the page is empty or has a character other than a to z");
        due("empty", with("a").correct(0), STATE);
        for (char c : new char[] {' ', '@', 'A', 'Z', '[', '`', '{', '~', '0'}) {
            for (int at : new int[] {0, 11, 23}) {
                Press y = with("abc").type(LONG.substring(0, at) + c + LONG.substring(at + 1));
                due(c + " at " + at, y.correct(0), STATE);
                due("the copy stays", y.of(0, 0), 3);
                due("the page stays", y.count(2), 24);
            }
        }
    }

    private static void promise8() {
        String heading = "Promise 8";
        Press x = with("adgk", "adg", "adgkxyz", "a", "adgkxyzz", "ydgz");
        sentence(heading, "0: how many letters it has");
        dueAll("lengths", answers(5, c -> x.of(c, 0)), 4, 3, 7, 1, 8, 4);
        due("24 letters", full().of(0, 0), 24);
        sentence(heading, "1: its state, NONE if it is excluded");
        dueAll("states", answers(5, c -> x.of(c, 1)), 0, 1, 0, 2, NONE, 3);
        sentence(heading, "2: the cost of the best alignment of copy 0 and this copy");
        dueAll("costs", answers(5, c -> x.of(c, 2)), 0, 2, 6, 6, NONE, 6);
        sentence(heading, "3: how many letters are added in it");
        dueAll("added letters", answers(5, c -> x.of(c, 3)), 0, 0, 3, 0, NONE, 0);
        sentence(heading, "4: at how many places the reading of this copy is not the letter of copy 0 (also if it"
                + " is no letter).");
        dueAll("places", answers(5, c -> x.of(c, 4)), 0, 1, 0, 3, NONE, 2);
        due("all 24 places", with("a".repeat(24), "z".repeat(24)).of(1, 4), 24);
        due("similar letters are others", with("i", "j").of(1, 4), 1);
        sentence(heading, "2 to 4 are NONE if the copy is excluded.");
        dueAll("excluded, longer", answers(4, w -> x.of(4, w)), 8, NONE, NONE, NONE, NONE);
        Press narrow = withBand(0, "ab", "a", "ab");
        dueAll("excluded, shorter", answers(4, w -> narrow.of(1, w)), 1, NONE, NONE, NONE, NONE);
        dueAll("not excluded", answers(4, w -> narrow.of(2, w)), 2, 0, 0, 0, 0);
        dueAll("copy 0 never is", answers(4, w -> narrow.of(0, w)), 2, 0, 0, 0, 0);
        sentence(heading, "UNKNOWN if there is no such copy");
        due("a new object", new Press().of(0, 0), UNKNOWN);
        dueEach("of(v, 0)", outside(0, 5), UNKNOWN, v -> full().of(v, 0));
        dueEach("of(v, 1)", outside(0, 2), UNKNOWN, v -> some().of(v, 1));
        sentence(heading, "OUTSIDE if what is not 0 to 4");
        dueEach("of(0, v)", outside(0, 4), OUTSIDE, v -> some().of(0, v));
        dueEach("of(2, v)", outside(0, 4), OUTSIDE, v -> some().of(2, v));
    }

    private static void promise9() {
        String heading = "Promise 9";
        sentence(heading, "Returns the code of a letter of a copy, by its index, from 0");
        dueAll("letters", answers(23, i -> full().sign(0, i)), answers(23, i -> LONG.charAt(i)));
        due("a letter of another copy", full().sign(5, 0), 'z');
        sentence(heading, "UNKNOWN if there is no such copy or letter");
        due("a new object", new Press().sign(0, 0), UNKNOWN);
        due("the first letter", full().sign(0, 0), 'a');
        due("the letter 23", full().sign(0, 23), 'x');
        dueEach("sign(v, 0)", outside(0, 5), UNKNOWN, v -> full().sign(v, 0));
        dueEach("sign(0, v)", outside(0, 23), UNKNOWN, v -> full().sign(0, v));
        dueEach("sign(1, v)", outside(0, 2), UNKNOWN, v -> some().sign(1, v));
        due("longer copies before do not count", with("abc", "a").sign(1, 1), UNKNOWN);
        due("the page does not count", new Press().type("a").sign(0, 0), UNKNOWN);
    }

    private static void promise11() {
        String heading = "Promise 11";
        sentence(heading, "Returns a step (0 to 2) of the best alignment of two copies, by its index, from 0");
        dueAll("all three", answers(2, i -> with("ab", "ba").step(0, 1, i)), 1, 0, 2);
        due("the only step", with("a", "z").step(0, 1, 0), 0);
        sentence(heading, "UNKNOWN if one of the copies does not exist, if there is no alignment, or if it has no"
                + " such step");
        dueEach("step(v, 0, 0)", outside(0, 2), UNKNOWN, v -> some().step(v, 0, 0));
        dueEach("step(0, v, 0)", outside(0, 2), UNKNOWN, v -> some().step(0, v, 0));
        dueEach("step(0, 1, v)", outside(0, 3), UNKNOWN, v -> some().step(0, 1, v));
        dueEach("step(0, 0, v)", outside(0, 23), UNKNOWN, v -> full().step(0, 0, v));
        dueEach("no alignment", new int[] {MIN, -1, 0, 1, 3, 7, MAX}, UNKNOWN, v -> some().step(0, 2, v));
        dueEach("no alignment", new int[] {MIN, -1, 0, 1, 3, 7, MAX}, UNKNOWN, v -> some().step(2, 0, v));
        due("a new object", new Press().step(0, 0, 0), UNKNOWN);
        due("the first step", some().step(0, 1, 0), 0);
        due("the last step", some().step(0, 1, 3), 0);
        Press fewer = with("abcd", "abcd");
        due("four steps", fewer.step(0, 1, 3), 0);
        fewer.type("ab").correct(0);
        fewer.type("ab").correct(1);
        due("only two steps now", fewer.step(0, 1, 2), UNKNOWN);
    }

    private static void promise12() {
        String heading = "Promise 12";
        sentence(heading, "Returns the code of the reading of a copy at a place");
        dueAll("copy 0 reads its letters", answers(23, p -> full().reading(0, p)), answers(23, p -> LONG.charAt(p)));
        dueAll("another letter", answers(2, p -> with("abc", "azc").reading(1, p)), 'a', 'z', 'c');
        sentence(heading, "NONE if it has no letter there");
        due("left out in the middle", some().reading(1, 2), NONE);
        due("the first place", with("xa", "a").reading(1, 0), NONE);
        due("the last place", with("ax", "a").reading(1, 1), NONE);
        sentence(heading, "UNKNOWN if there is no such copy or place");
        due("a new object", new Press().reading(0, 0), UNKNOWN);
        dueEach("reading(v, 0)", outside(0, 2), UNKNOWN, v -> some().reading(v, 0));
        dueEach("reading(0, v)", outside(0, 3), UNKNOWN, v -> some().reading(0, v));
        dueEach("reading(1, v)", outside(0, 23), UNKNOWN, v -> full().reading(1, v));
        dueEach("reading(2, v)", outside(0, 3), UNKNOWN, v -> some().reading(2, v));
        sentence(heading, "STATE if the copy is excluded");
        dueEach("reading(2, v)", new int[] {0, 1, 2, 3}, STATE, v -> some().reading(2, v));
        Press other = some();
        other.band(4);
        due("by a wider band it is not", other.reading(2, 0), 'a');
        other.band(0);
        due("by the band 0 it is", other.reading(1, 0), STATE);
        due("copy 0 never is", other.reading(0, 0), 'a');
    }

    private static void promise10() {
        String heading = "Promise 10";
        sentence(heading, "(one is the first one; it can be the same copy twice)");
        Press x = full();
        dueAll("copy 0 twice", answers(6, w -> x.collate(0, 0, w)), 0, 24, 24, 0, 0, 0, 0);
        dueAll("copy 3 twice", answers(6, w -> x.collate(3, 3, w)), 0, 1, 1, 0, 0, 0, 0);
        Press y = withBand(0, "abc", "abcdef");
        dueAll("a copy twice by the band 0", answers(6, w -> y.collate(1, 1, w)), 0, 6, 6, 0, 0, 0, 0);
        Press z = with("ab", "a");
        dueAll("left out", answers(6, w -> z.collate(0, 1, w)), 2, 2, 1, 0, 0, 1, 0);
        dueAll("added", answers(6, w -> z.collate(1, 0, w)), 2, 2, 1, 0, 0, 0, 1);
        sentence(heading, "0: its cost; 1: the number of its steps; 2: pairs of equal letters; 3: pairs of letters"
                + " that are similar but not equal; 4: other pairs; 5: letters left out; 6: letters added.");
        Press each = with("adiwk", "ajqkz");
        // a-a, d left out, i-j, w-q, k-k, z added
        dueAll("one of each, two equal pairs", answers(6, w -> each.collate(0, 1, w)), 8, 6, 2, 1, 1, 1, 1);
        sentence(heading, "NONE if there is no alignment");
        dueAll("none", answers(6, w -> some().collate(0, 2, w)), NONE, NONE, NONE, NONE, NONE, NONE, NONE);
        dueAll("none", answers(6, w -> some().collate(2, 0, w)), NONE, NONE, NONE, NONE, NONE, NONE, NONE);
        due("without copy 0", some().collate(1, 2, 0), NONE);
        Press wide = some();
        due("none by the band 3", wide.collate(1, 2, 0), NONE);
        wide.band(5);
        due("one by the band 5", wide.collate(1, 2, 6), 5);
        wide.band(4);
        due("none by the band 4", wide.collate(1, 2, 6), NONE);
        sentence(heading, "UNKNOWN if one of the copies does not exist");
        due("a new object", new Press().collate(0, 0, 0), UNKNOWN);
        dueEach("collate(v, 0, 0)", outside(0, 2), UNKNOWN, v -> some().collate(v, 0, 0));
        dueEach("collate(0, v, 0)", outside(0, 2), UNKNOWN, v -> some().collate(0, v, 0));
        dueEach("collate(v, v, 0)", outside(0, 5), UNKNOWN, v -> full().collate(v, v, 0));
        sentence(heading, "OUTSIDE if what is not 0 to 6");
        dueEach("collate(0, 1, v)", outside(0, 6), OUTSIDE, v -> some().collate(0, 1, v));
        dueEach("collate(0, 2, v)", outside(0, 6), OUTSIDE, v -> some().collate(0, 2, v));
    }

    private static void promise13() {
        String heading = "Promise 13";
        sentence(heading, "0: how many states there are; 1: how many copies are excluded; 2: the sum of the"
                + " distances of all states other than state 0 from their parents; 3: at how many places not all"
                + " states have the same reading; 4: the number of pairs of a state and a place that is reverted at"
                + " it; 5: how many states are the parent of no state");
        Press none = new Press();
        dueAll("no copy", answers(5, none::states), 0, 0, 0, 0, 0, 0);
        Press one = with(LONG);
        dueAll("one copy", answers(5, one::states), 1, 0, 0, 0, 0, 1);
        Press excluded = fiveExcluded();
        dueAll("five excluded", answers(5, excluded::states), 1, 5, 0, 0, 0, 1);
        Press same = oneState();
        dueAll("six copies of one state", answers(5, same::states), 1, 0, 0, 0, 0, 1);
        Press far = sixStates();
        dueAll("each place differs", answers(5, far::states), 6, 0, 120, 24, 0, 5);
        Press gone = with("a", "d");
        gone.drop();
        gone.drop();
        dueAll("no copy again", answers(5, gone::states), 0, 0, 0, 0, 0, 0);
        sentence(heading, "OUTSIDE if what is not 0 to 5");
        dueEach("states", outside(0, 5), OUTSIDE, v -> some().states(v));
        dueEach("states of a new object", outside(0, 5), OUTSIDE, v -> new Press().states(v));
    }

    private static void promise14() {
        String heading = "Promise 14";
        Press chain = comingBack();
        Press same = oneState();
        Press far = sixStates();
        sentence(heading, "0: its first copy");
        dueAll("first copies", answers(3, v -> chain.state(v, 0)), 0, 2, 3, UNKNOWN);
        due("of six", far.state(5, 0), 5);
        sentence(heading, "1: how many copies belong to it");
        dueAll("copies", answers(2, v -> chain.state(v, 1)), 2, 2, 1);
        due("all six", same.state(0, 1), 6);
        due("none of the excluded ones", fiveExcluded().state(0, 1), 1);
        sentence(heading, "2: its parent, NONE for state 0");
        dueAll("parents", answers(2, v -> chain.state(v, 2)), NONE, 0, 1);
        due("state 0 alone", same.state(0, 2), NONE);
        sentence(heading, "3: its distance from its parent, 0 for state 0");
        dueAll("distances", answers(2, v -> chain.state(v, 3)), 0, 3, 3);
        dueAll("all 24 places", answers(5, v -> far.state(v, 3)), 0, 24, 24, 24, 24, 24);
        sentence(heading, "4: the number of its ancestors");
        dueAll("ancestors", answers(2, v -> chain.state(v, 4)), 0, 1, 2);
        due("state 0 alone", same.state(0, 4), 0);
        sentence(heading, "5: how many places are reverted at it");
        dueAll("reverted places", answers(2, v -> chain.state(v, 5)), 0, 0, 1);
        sentence(heading, "6: its index, from 0, in the order in which the states came to belong to the tree (so 0"
                + " for state 0).");
        dueAll("in their order", answers(5, v -> far.state(v, 6)), 0, 1, 2, 3, 4, 5);
        Press back = with("aaaaa", "ddddd", "dddda", "dddaa", "ddaaa", "daaaa");
        dueAll("back", answers(5, v -> back.state(v, 6)), 0, 5, 4, 3, 2, 1);
        due("state 0 alone", same.state(0, 6), 0);
        sentence(heading, "UNKNOWN if there is no such state");
        due("a new object", new Press().state(0, 0), UNKNOWN);
        dueEach("state(v, 0)", outside(0, 1), UNKNOWN, v -> some().state(v, 0));
        dueEach("state of six", outside(0, 5), UNKNOWN, v -> with("a", "d", "g", "k", "m", "p").state(v, 0));
        due("copies of one state", same.state(1, 0), UNKNOWN);
        due("an excluded copy", fiveExcluded().state(1, 0), UNKNOWN);
        sentence(heading, "OUTSIDE if what is not 0 to 6");
        dueEach("state(0, v)", outside(0, 6), OUTSIDE, v -> some().state(0, v));
        dueEach("state(1, v)", outside(0, 6), OUTSIDE, v -> some().state(1, v));
    }

    private static void promise15() {
        String heading = "Promise 15";
        sentence(heading, "Returns the distance of two states");
        due("a state and itself", sixStates().far(5, 5), 0);
        due("the states 0 and 5", sixStates().far(0, 5), 24);
        due("the states 5 and 0", sixStates().far(5, 0), 24);
        sentence(heading, "UNKNOWN if one of them does not exist");
        due("a new object", new Press().far(0, 0), UNKNOWN);
        dueEach("far(v, 0)", outside(0, 1), UNKNOWN, v -> some().far(v, 0));
        dueEach("far(1, v)", outside(0, 1), UNKNOWN, v -> some().far(1, v));
        dueEach("far(v, v)", outside(0, 5), UNKNOWN, v -> with("a", "d", "g", "k", "m", "p").far(v, v));
    }

    private static void promise16() {
        String heading = "Promise 16";
        sentence(heading, "Returns 1 if a place is reverted at a state, else 0");
        dueAll("state 2", answers(5, p -> comingBack().turned(2, p)), 1, 0, 0, 0, 0, 0);
        dueAll("state 1", answers(5, p -> comingBack().turned(1, p)), 0, 0, 0, 0, 0, 0);
        dueAll("state 0", answers(5, p -> comingBack().turned(0, p)), 0, 0, 0, 0, 0, 0);
        sentence(heading, "UNKNOWN if there is no such state or place");
        due("a new object", new Press().turned(0, 0), UNKNOWN);
        dueEach("turned(v, 0)", outside(0, 1), UNKNOWN, v -> some().turned(v, 0));
        dueEach("turned(0, v)", outside(0, 3), UNKNOWN, v -> some().turned(0, v));
        dueEach("turned(2, v)", outside(0, 5), UNKNOWN, v -> with("aaaaaa", "dddaaa", "adddda").turned(2, v));
        dueEach("turned(0, v) of 24", outside(0, 23), UNKNOWN, v -> full().turned(0, v));
        due("the place 23", full().turned(0, 23), 0);
    }

    private static void promise17() {
        String heading = "Promise 17";
        sentence(heading, "Adds a sighting. @return its number");
        Press x = new Press();
        for (int i = 0; i < 12; i++) {
            due("see", x.see(i / 6, i % 6, i / 6, 1), i);
        }
        sentence(heading, "OUTSIDE if type or forme is not 0 to 5, spot is not 0 to 9, or wear is not 1 to 9");
        dueEach("type", outside(0, 5), OUTSIDE, v -> new Press().see(v, 0, 0, 1));
        dueEach("forme", outside(0, 5), OUTSIDE, v -> new Press().see(0, v, 0, 1));
        dueEach("spot", outside(0, 9), OUTSIDE, v -> new Press().see(0, 0, v, 1));
        dueEach("wear", outside(1, 9), OUTSIDE, v -> new Press().see(0, 0, 0, v));
        dueEach("all", outside(0, 9), OUTSIDE, v -> new Press().see(v, v, v, v));
        due("the smallest of each", new Press().see(0, 0, 0, 1), 0);
        due("the greatest of each", new Press().see(5, 5, 9, 9), 0);
        sentence(heading, "STATE if there is a sighting of this type on this forme, or at this spot of this forme");
        due("the type, another spot", some().see(0, 0, 9, 1), STATE);
        due("the spot, another type", some().see(5, 0, 0, 1), STATE);
        due("the last sighting's type", some().see(3, 4, 0, 1), STATE);
        due("the last sighting's spot", some().see(0, 4, 3, 1), STATE);
        due("the type on another forme", some().see(0, 2, 9, 1), 3);
        due("the spot of another forme", some().see(5, 2, 0, 1), 3);
        due("another type and another spot", some().see(5, 0, 9, 1), 3);
        due("after it was removed", removed(some(), 0).see(0, 0, 0, 1), 2);
        sentence(heading, "FULL if there are 12 sightings");
        due("11 sightings", removed(full(), 11).see(5, 0, 5, 1), 11);
        due("12 sightings", full().see(3, 0, 5, 1), FULL);
        due("12 sightings, far away", full().see(5, 2, 9, 9), FULL);
    }

    private static void promise18() {
        String heading = "Promise 18";
        sentence(heading, "Removes a sighting; the numbers of the sightings behind it decrease by 1. @return how"
                + " many sightings are left");
        for (int gone : new int[] {0, 5, 11}) {
            Press y = circle();
            due("unsee(" + gone + ")", y.unsee(gone), 11);
            for (int what = 0; what < 4; what++) {
                int column = what;
                Press twin = circle();
                dueAll("seen(.., " + what + ") without " + gone, answers(10, i -> y.seen(i, column)),
                        answers(10, i -> twin.seen(i < gone ? i : i + 1, column)));
            }
            due("the last number", y.seen(11, 0), UNKNOWN);
        }
        Press last = new Press().seeAll(new int[] {0, 0, 1});
        due("the only one", last.unsee(0), 0);
        due("the next has its number", last.see(0, 0, 0, 1), 0);
        sentence(heading, "UNKNOWN if there is no such sighting");
        due("a new object", new Press().unsee(0), UNKNOWN);
        dueEach("unsee", outside(0, 2), UNKNOWN, v -> some().unsee(v));
        dueEach("unsee of twelve", outside(0, 11), UNKNOWN, v -> full().unsee(v));
        due("one that was removed", removed(some(), 0).unsee(2), UNKNOWN);
    }

    private static void promise19() {
        String heading = "Promise 19";
        sentence(heading, "what = 0: the type; 1: the forme; 2: the spot; 3: the wear");
        Press ends = new Press();
        ends.see(0, 5, 9, 1);
        ends.see(5, 0, 0, 9);
        dueAll("sighting 0", answers(3, w -> ends.seen(0, w)), 0, 5, 9, 1);
        dueAll("sighting 1", answers(3, w -> ends.seen(1, w)), 5, 0, 0, 9);
        sentence(heading, "UNKNOWN if there is no such sighting");
        due("a new object", new Press().seen(0, 0), UNKNOWN);
        dueEach("seen(v, 0)", outside(0, 2), UNKNOWN, v -> some().seen(v, 0));
        dueEach("seen(v, 3) of twelve", outside(0, 11), UNKNOWN, v -> full().seen(v, 3));
        sentence(heading, "OUTSIDE if what is not 0 to 3");
        dueEach("seen(0, v)", outside(0, 3), OUTSIDE, v -> some().seen(0, v));
    }

    private static Press removed(Press x, int sighting) {
        x.unsee(sighting);
        return x;
    }

    private static void promise20() {
        String heading = "Promise 20";
        sentence(heading, "`forme`: the forme, 0 to 5.");
        dueAll("six formes", answers(5, f -> circle().forme(f, 0)), 2, 2, 2, 2, 2, 2);
        Press none = new Press();
        Press x = some();
        Press circle = circle();
        sentence(heading, "0: how many sightings there are of it");
        dueAll("no sighting", answers(5, f -> none.forme(f, 0)), 0, 0, 0, 0, 0, 0);
        dueAll("three formes", answers(5, f -> x.forme(f, 0)), 1, 1, 0, 0, 1, 0);
        due("six types", allTypes().forme(5, 0), 6);
        due("none is left", bare().forme(3, 0), 0);
        sentence(heading, "1: the set of the formes of which it is ahead");
        dueAll("no sighting", answers(5, f -> none.forme(f, 1)), 0, 0, 0, 0, 0, 0);
        dueAll("a circle", answers(5, f -> circle.forme(f, 1)), 2, 4, 8, 16, 32, 1);
        due("the only one", allTypes().forme(5, 1), 0);
        sentence(heading, "2: the set of the other seen formes with which it can stand together (0 if it is not"
                + " seen)");
        dueAll("no sighting", answers(5, f -> none.forme(f, 2)), 0, 0, 0, 0, 0, 0);
        dueAll("three formes", answers(5, f -> x.forme(f, 2)), 16, 16, 0, 0, 3, 0);
        dueAll("a circle", answers(5, f -> circle.forme(f, 2)),
                4 + 8 + 16, 8 + 16 + 32, 1 + 16 + 32, 1 + 2 + 32, 1 + 2 + 4, 2 + 4 + 8);
        due("the only one", allTypes().forme(5, 2), 0);
        sentence(heading, "3: its index, from 0, in the first order, NONE if it is not seen or there is no order");
        dueAll("no sighting", answers(5, f -> none.forme(f, 3)), NONE, NONE, NONE, NONE, NONE, NONE);
        dueAll("three formes", answers(5, f -> x.forme(f, 3)), 0, 1, NONE, NONE, 2, NONE);
        dueAll("a circle", answers(5, f -> circle.forme(f, 3)), NONE, NONE, NONE, NONE, NONE, NONE);
        Press partly = new Press().seeAll(new int[][] {{0, 0, 1}, {1, 1, 1}, {1, 2, 2}, {2, 1, 2}, {2, 2, 1}});
        dueAll("a forme beside a circle", answers(5, f -> partly.forme(f, 3)), NONE, NONE, NONE, NONE, NONE, NONE);
        due("the only one", allTypes().forme(5, 3), 0);
        due("no longer seen", bare().forme(3, 3), NONE);
        sentence(heading, "4: its press, NONE if it is not seen.");
        dueAll("no sighting", answers(5, f -> none.forme(f, 4)), NONE, NONE, NONE, NONE, NONE, NONE);
        dueAll("three formes", answers(5, f -> x.forme(f, 4)), 0, 1, NONE, NONE, 0, NONE);
        dueAll("without an order too", answers(5, f -> circle.forme(f, 4)), 0, 1, 0, 1, 0, 1);
        due("no longer seen", bare().forme(3, 4), NONE);
        sentence(heading, "UNKNOWN if forme is not 0 to 5");
        dueEach("forme(v, 0)", outside(0, 5), UNKNOWN, v -> some().forme(v, 0));
        dueEach("forme(v, 4)", outside(0, 5), UNKNOWN, v -> new Press().forme(v, 4));
        sentence(heading, "OUTSIDE if what is not 0 to 4");
        dueEach("forme(0, v)", outside(0, 4), OUTSIDE, v -> some().forme(0, v));
        dueEach("forme(5, v), not seen", outside(0, 4), OUTSIDE, v -> some().forme(5, v));
    }

    private static void promise21() {
        String heading = "Promise 21";
        sentence(heading, "what = 0: how many formes are seen");
        dueAll("formes", fiveAnswers(0), 0, 0, 1, 1, 6);
        sentence(heading, "1: how many orders there are (1 if no forme is seen)");
        dueAll("orders", fiveAnswers(1), 1, 1, 1, 1, 0);
        due("4 is free", some().formes(1), 3);
        sentence(heading, "2: how many sightings the fault has");
        dueAll("sightings", fiveAnswers(2), 0, 0, 0, 0, 1);
        sentence(heading, "3: the fault");
        dueAll("faults", fiveAnswers(3), 0, 0, 0, 0, 1);
        sentence(heading, "4: the number of presses");
        dueAll("presses", fiveAnswers(4), 0, 0, 1, 1, 2);
        sentence(heading, "5: the set of the types of which there are sightings");
        dueAll("types", fiveAnswers(5), 0, 0, 32, 63, 63);
        sentence(heading, "OUTSIDE if what is not 0 to 5");
        dueEach("formes", outside(0, 5), OUTSIDE, v -> some().formes(v));
        dueEach("formes of a new object", outside(0, 5), OUTSIDE, v -> new Press().formes(v));
    }

    /** Of a new object, one without a sighting again, one with one, with one forme of six types, and with no order. */
    private static int[] fiveAnswers(int what) {
        return new int[] {
            new Press().formes(what), bare().formes(what), oneSighting().formes(what), allTypes().formes(what),
            circle().formes(what)
        };
    }

    private static void promise22() {
        String heading = "Promise 22";
        sentence(heading, "Returns the forme with an index, from 0, in the first order");
        dueAll("three formes", answers(2, some()::order), 0, 1, 4);
        due("one forme", oneSighting().order(0), 5);
        sentence(heading, "UNKNOWN if there is no such index, or if there is no order");
        due("no forme is seen", new Press().order(0), UNKNOWN);
        dueAll("three formes", answers(3, some()::order), 0, 1, 4, UNKNOWN);
        dueEach("order", outside(0, 2), UNKNOWN, v -> some().order(v));
        dueEach("there is no order", new int[] {MIN, -1, 0, 1, 5, 6, MAX}, UNKNOWN, v -> full().order(v));
        Press partly = new Press().seeAll(new int[][] {{0, 0, 1}, {1, 1, 1}, {1, 2, 2}, {2, 1, 2}, {2, 2, 1}});
        dueEach("a forme beside a circle", new int[] {0, 1, 2}, UNKNOWN, partly::order);
        Press mended = full();
        due("there is none", mended.order(0), UNKNOWN);
        mended.unsee(11);
        dueAll("there is one", answers(6, mended::order), 0, 1, 2, 3, 4, 5, UNKNOWN);
    }

    private static void promise23() {
        String heading = "Promise 23";
        Press none = new Press();
        Press most = full();
        Press fewer = fewerAgain();
        sentence(heading, "what = 0: how many copies there are");
        dueAll("copies", new int[] {none.count(0), most.count(0), fewer.count(0)}, 0, 6, 5);
        sentence(heading, "1: sightings");
        dueAll("sightings", new int[] {none.count(1), most.count(1), fewer.count(1)}, 0, 12, 11);
        sentence(heading, "2: characters of the page");
        dueAll("characters", new int[] {none.count(2), most.count(2), fewer.count(2)}, 0, 24, 0);
        sentence(heading, "3: the band");
        dueAll("the band", new int[] {none.count(3), most.count(3), fewer.count(3)}, 3, 3, 9);
        sentence(heading, "4: how many times copy() and correct() have been successful");
        dueAll("times", new int[] {none.count(4), most.count(4), fewer.count(4)}, 0, 6, 7);
        sentence(heading, "5: how many sightings have been removed by unsee() so far");
        dueAll("removed", new int[] {none.count(5), most.count(5), fewer.count(5)}, 0, 0, 2);
        sentence(heading, "OUTSIDE if what is not 0 to 5");
        dueEach("count", outside(0, 5), OUTSIDE, v -> some().count(v));
        dueEach("count of a new object", outside(0, 5), OUTSIDE, v -> new Press().count(v));
    }

    private static void promise24() {
        String heading = "Promise 24";
        sentence(heading, "h is 1607 at first; for each value v in the following order, h becomes 31 h + v (as"
                + " longs, with overflow)");
        due("a new object", new Press().digest(), hash(valuesOf(Press::new, "")));
        BigInteger exact = exactHash(valuesOf(EdgesTest::full, LONG));
        dueTrue("there is an overflow", exact.bitLength() > 1000);
        due("with overflow", full().digest(), exact.longValue());
        due("nothing is changed by it", twice(full()), full().digest());

        sentence(heading, "for each copy in ascending order, of() for what = 0 to 4, the codes of its letters, and,"
                + " if it is not excluded, reading() for all places; for each pair of copies a and b with a less"
                + " than b, by a, then by b, collate(a, b, 0) to collate(a, b, 6); states(0) to states(5); for each"
                + " state in ascending order, state() for what = 0 to 6; for each sighting in ascending order,"
                + " seen() for what = 0 to 3; for each forme from 0 to 5, forme() for what = 0 to 4; formes(0) to"
                + " formes(5); if there is an order, order() for all its indices; the codes of the characters of"
                + " the page; count(0) to count(5).");
        dueDigest("reverted places", () -> with("adgkmpqw", "xxgkmpq", "xxyympqz", "xxyyzpq"), "");
        dueDigest("six copies, twelve sightings", EdgesTest::full, LONG);

        sentence(heading, "and, if it is not excluded, reading() for all places");
        dueDigest("an excluded copy", EdgesTest::some, "ab");
        dueDigest("the band 0", () -> withBand(0, "ab", "ba", "abc", "cd"), "");
        dueDigest("the band 9", () -> withBand(9, LONG, LONG.substring(9), LONG.substring(10), LONG.substring(0, 15)), "");
        sentence(heading, "for each pair of copies a and b with a less than b, by a, then by b, collate(a, b, 0) to"
                + " collate(a, b, 6)");
        dueDigest("no pair", () -> with("q"), "");
        dueDigest("one pair", () -> with("abc", "ac"), "");
        dueDigest("three pairs, one without an alignment", () -> with("abc", "a", "abcde"), "");
        sentence(heading, "if there is an order, order() for all its indices");
        dueDigest("no order", () -> circle(), "");
        dueDigest("an order of six", () -> removed(circle(), 11), "");
        dueDigest("an order of one", () -> new Press().seeAll(new int[] {5, 5, 1}), "");
        sentence(heading, "the codes of the characters of the page");
        dueDigest("no copy, a page", () -> new Press().type(" ~a"), " ~a");
        dueDigest("a full page", () -> new Press().type("~".repeat(24)), "~".repeat(24));
        dueDigest("an empty page", () -> blanked("abc"), "");
    }

    /** From full(): what is refused does not count, and what was dropped or removed has counted. */
    private static Press fewerAgain() {
        Press x = full();
        x.copy();
        x.correct(6);
        x.unsee(12);
        x.correct(5);
        x.correct(5);
        x.drop();
        x.unsee(0);
        x.unsee(0);
        x.see(3, 0, 5, 1);
        x.band(9);
        x.band(10);
        return x;
    }

    private static long twice(Press x) {
        x.digest();
        return x.digest();
    }

    private static void dueDigest(String name, Supplier<Press> maker, String page) {
        due(name, maker.get().digest(), hash(valuesOf(maker, page)));
    }

    private static long hash(List<Integer> values) {
        return exactHash(values).longValue();
    }

    private static BigInteger exactHash(List<Integer> values) {
        BigInteger h = BigInteger.valueOf(1607);
        for (int v : values) {
            h = h.multiply(BigInteger.valueOf(31)).add(BigInteger.valueOf(v));
        }
        return h;
    }

    private static void addAll(List<Integer> values, int[] more) {
        for (int v : more) {
            values.add(v);
        }
    }

    /** The values of the digest in their order, asked by the other methods of twins of the object. */
    private static List<Integer> valuesOf(Supplier<Press> maker, String page) {
        List<Integer> values = new ArrayList<>();
        int copies = maker.get().count(0);
        for (int i = 0; i < copies; i++) {
            int copy = i;
            Press x = maker.get();
            addAll(values, answers(4, w -> x.of(copy, w)));
            addAll(values, answers(x.of(copy, 0) - 1, p -> x.sign(copy, p)));
            addAll(values, answers(x.of(copy, 1) == NONE ? -1 : x.of(0, 0) - 1, p -> x.reading(copy, p)));
        }
        Press pairs = maker.get();
        for (int i = 0; i < copies; i++) {
            for (int j = i + 1; j < copies; j++) {
                int a = i;
                int b = j;
                addAll(values, answers(6, w -> pairs.collate(a, b, w)));
            }
        }
        addAll(values, answers(5, pairs::states));
        Press rest = maker.get();
        for (int i = 0; i < pairs.states(0); i++) {
            int state = i;
            addAll(values, answers(6, w -> rest.state(state, w)));
        }
        for (int i = 0; i < rest.count(1); i++) {
            int sighting = i;
            addAll(values, answers(3, w -> rest.seen(sighting, w)));
        }
        for (int i = 0; i < 6; i++) {
            int forme = i;
            addAll(values, answers(4, w -> rest.forme(forme, w)));
        }
        addAll(values, answers(5, rest::formes));
        addAll(values, answers(rest.formes(1) == 0 ? -1 : rest.formes(0) - 1, rest::order));
        addAll(values, page.chars().toArray());
        addAll(values, answers(5, rest::count));
        return values;
    }

    // ---- the quotes and the document

    private static String oneLine(String text) {
        return text.replaceAll("\\s+", " ");
    }

    /** The text from a heading to the next one. */
    private static String under(String document, String heading) {
        for (String part : document.split("(?m)^## ")) {
            if (part.startsWith(heading + "\n") || part.startsWith(heading + ":")) {
                return oneLine(part.substring(part.indexOf('\n')).replace("- `what`: ", ""));
            }
        }
        return "";
    }

    private static void checkQuotes(String document) {
        for (Map.Entry<String, List<String>> entry : quotes.entrySet()) {
            current = entry.getKey();
            String text = under(document, entry.getKey());
            String left = text;
            for (String quote : entry.getValue()) {
                if (!text.contains(quote)) {
                    fail("the document does not say '" + quote + "'");
                }
                left = left.replace(quote, " ... ");
            }
            for (String word : EDGE_WORDS) {
                if (left.contains(word) && !entry.getKey().equals("What it is")) {
                    fail("'" + word + "' stands in no quote: " + left);
                }
            }
        }
        for (int promise = 1; promise <= 24; promise++) {
            if (!quotes.containsKey("Promise " + promise)) {
                fail("no sentence of Promise " + promise);
            }
        }
    }
}
