import java.util.ArrayList;
import java.util.Arrays;
import java.util.HashMap;
import java.util.List;
import java.util.Map;
import java.util.Random;

/**
 * Runs of calls that are drawn by a fixed seed, on the class and on a slow model of the document that
 * works by other ways (lists of all sequences, permutations and assignments); each answer of the
 * class must be the model's.
 */
public final class ModelTest {
    private static final int RUNS = 400;
    private static final int CALLS = 512;
    private static final int[] ODD = {
        Integer.MIN_VALUE, Integer.MIN_VALUE + 1, -104, -2, -1, 6, 7, 12, 24, 25, 31, 32, 33, 48, 64, 127,
        1 << 16, Integer.MAX_VALUE - 1, Integer.MAX_VALUE
    };
    private static int wrong = 0;

    public static void main(String[] args) {
        for (int run = 0; run < RUNS && wrong < 20; run++) {
            play(run);
        }
        exhaustAlignments();
        System.out.println(wrong == 0 ? "class and model agree" : wrong + " answers differ from the model's");
        if (wrong != 0) {
            System.exit(1);
        }
    }

    // ---- drawing calls

    private static void play(int run) {
        StopPress real = new StopPress();
        Model model = new Model();
        Caller caller = new Caller(run);
        List<String> told = new ArrayList<>();
        for (int call = 0; call < CALLS; call++) {
            int[] a = new int[4];
            int method = caller.draw(a);
            long got = onReal(real, method, a);
            long due = model.call(method, a);
            told.add(NAMES[method] + Arrays.toString(a) + " = " + got);
            if (got != due) {
                wrong++;
                int from = Math.max(0, told.size() - 60);
                System.out.println("run " + run + ", call " + call + ": due is " + due + "; the last calls:");
                for (String line : told.subList(from, told.size())) {
                    System.out.println("  " + line);
                }
                return;
            }
        }
    }

    /** Draws the calls of one run: mostly such as change something, with words that are akin. */
    private static final class Caller {
        final Random random;
        final boolean types;
        final boolean texts;
        final String letters;
        final int greatestType;
        final int shortest;
        String word;
        int typed = 0;

        Caller(int run) {
            random = new Random(1607L * (run + 1));
            texts = run % 3 != 1;
            types = run % 3 != 0;
            letters = new String[] {"ab", "ijlnuv", "fscetorbh", "abcdefghijklmnopqrstuvwxyz"}[run % 4];
            greatestType = new int[] {5, 1, 3, 2, 5}[run % 5];
            shortest = run % 7 == 0 ? 20 : 1;
            word = freshWord();
        }

        char anyLetter() {
            return letters.charAt(random.nextInt(letters.length()));
        }

        String freshWord() {
            StringBuilder text = new StringBuilder();
            int length = shortest + random.nextInt(random.nextInt(3) == 0 ? 24 : 8);
            while (text.length() < length) {
                text.append(anyLetter());
            }
            return text.toString();
        }

        String nextWord() {
            if (random.nextInt(12) == 0) {
                return freshWord();
            }
            StringBuilder text = new StringBuilder(word);
            for (int i = random.nextInt(3); i >= 0; i--) {
                int at = random.nextInt(text.length());
                int change = random.nextInt(6);
                if (change == 0) {
                    text.insert(at, anyLetter());
                } else if (change == 1 && text.length() > 1) {
                    text.deleteCharAt(at);
                } else {
                    text.setCharAt(at, anyLetter());
                }
            }
            return text.toString();
        }

        int number(int bound) {
            return random.nextInt(40) == 0 ? ODD[random.nextInt(ODD.length)] : random.nextInt(bound + 1);
        }

        int draw(int[] a) {
            int kind = random.nextInt(100);
            if (texts && kind < 55) {
                return drawText(a);
            }
            if (types && kind < 75) {
                return drawSighting(a);
            }
            int method = 6 + random.nextInt(17);
            if (method == 15 || method == 16) {
                method = 22;
            }
            int[] bounds = BOUNDS[method];
            for (int i = 0; i < bounds.length; i++) {
                a[i] = number(bounds[i]);
            }
            return method;
        }

        int drawText(int[] a) {
            int kind = random.nextInt(100);
            if (kind < 3) {
                a[0] = kind == 0 ? number(130) : number(9);
                return kind == 0 ? 0 : 5;
            }
            if (kind == 3) {
                return 1 + 3 * random.nextInt(2);
            }
            if (kind == 4) {
                a[0] = number(5);
                return 2 + random.nextInt(2);
            }
            if (typed < word.length()) {
                a[0] = word.charAt(typed);
                typed++;
                return 0;
            }
            word = nextWord();
            typed = 0;
            a[0] = number(5);
            return random.nextInt(3) == 0 ? 3 : 2;
        }

        int drawSighting(int[] a) {
            if (random.nextInt(5) == 0) {
                a[0] = number(11);
                return 16;
            }
            a[0] = number(greatestType);
            a[1] = number(5);
            a[2] = number(9);
            a[3] = 1 + number(8);
            return 15;
        }
    }

    private static final String[] NAMES = {
        "letter", "blank", "copy", "correct", "drop", "band", "of", "sign", "collate", "step", "reading",
        "states", "state", "far", "turned", "see", "unsee", "seen", "forme", "formes", "order", "count", "digest"
    };

    private static final int[][] BOUNDS = {
        {}, {}, {}, {}, {}, {}, {5, 4}, {5, 24}, {5, 5, 6}, {5, 5, 30}, {5, 24}, {5}, {5, 6}, {5, 5}, {5, 24},
        {}, {}, {11, 3}, {5, 4}, {5}, {5}, {5}, {}
    };

    private static long onReal(StopPress x, int method, int[] a) {
        switch (method) {
            case 0: return x.letter(a[0]);
            case 1: return x.blank();
            case 2: return x.copy();
            case 3: return x.correct(a[0]);
            case 4: return x.drop();
            case 5: return x.band(a[0]);
            case 6: return x.of(a[0], a[1]);
            case 7: return x.sign(a[0], a[1]);
            case 8: return x.collate(a[0], a[1], a[2]);
            case 9: return x.step(a[0], a[1], a[2]);
            case 10: return x.reading(a[0], a[1]);
            case 11: return x.states(a[0]);
            case 12: return x.state(a[0], a[1]);
            case 13: return x.far(a[0], a[1]);
            case 14: return x.turned(a[0], a[1]);
            case 15: return x.see(a[0], a[1], a[2], a[3]);
            case 16: return x.unsee(a[0]);
            case 17: return x.seen(a[0], a[1]);
            case 18: return x.forme(a[0], a[1]);
            case 19: return x.formes(a[0]);
            case 20: return x.order(a[0]);
            case 21: return x.count(a[0]);
            default: return x.digest();
        }
    }

    // ---- all alignments of short words, one by one

    private static void exhaustAlignments() {
        String[] words = {"a", "i", "ab", "il", "aab", "ili", "baab", "njuv", "aabab", "lijbi", "uvnxu", "abcde"};
        for (String one : words) {
            for (String other : words) {
                for (int band = 0; band <= 5; band++) {
                    StopPress x = new StopPress();
                    put(x, one);
                    put(x, other);
                    x.band(band);
                    List<String> all = new ArrayList<>();
                    list(one, other, band, 0, 0, "", all);
                    String best = null;
                    for (String steps : all) {
                        boolean less = best == null || cost(one, other, steps) < cost(one, other, best)
                                || cost(one, other, steps) == cost(one, other, best) && steps.compareTo(best) < 0;
                        best = less ? steps : best;
                    }
                    int due = best == null ? -1 : cost(one, other, best);
                    StringBuilder got = new StringBuilder();
                    for (int i = 0; x.step(0, 1, i) != -101; i++) {
                        got.append(x.step(0, 1, i));
                    }
                    if (x.collate(0, 1, 0) != due || !got.toString().equals(best == null ? "" : best)) {
                        wrong++;
                        System.out.println(one + " " + other + " band " + band + ": " + got + ", due is " + best);
                    }
                }
            }
        }
    }

    private static void put(StopPress x, String word) {
        for (char c : word.toCharArray()) {
            x.letter(c);
        }
        x.copy();
    }

    private static void list(String a, String b, int band, int i, int j, String steps, List<String> all) {
        if (i > a.length() || j > b.length() || Math.abs(i - j) > band) {
            return;
        }
        if (i == a.length() && j == b.length()) {
            all.add(steps);
            return;
        }
        list(a, b, band, i + 1, j + 1, steps + "0", all);
        list(a, b, band, i + 1, j, steps + "1", all);
        list(a, b, band, i, j + 1, steps + "2", all);
    }

    private static int cost(String a, String b, String steps) {
        int i = 0;
        int j = 0;
        int sum = 0;
        for (char step : steps.toCharArray()) {
            if (step == '0') {
                sum += pairCost(a.charAt(i++), b.charAt(j++));
            } else {
                sum += 2;
                i += step == '1' ? 1 : 0;
                j += step == '2' ? 1 : 0;
            }
        }
        return sum;
    }

    private static int pairCost(char a, char b) {
        if (a == b) {
            return 0;
        }
        for (String group : new String[] {"ijl", "nuv", "fs", "ceo", "bh", "rt"}) {
            if (group.indexOf(a) >= 0 && group.indexOf(b) >= 0) {
                return 1;
            }
        }
        return 3;
    }

    // ---- the model

    private static final class Model {
        String page = "";
        final List<String> copies = new ArrayList<>();
        int band = 3;
        int taken = 0;
        int removed = 0;
        final List<int[]> sightings = new ArrayList<>();
        // What was worked out, by all that it depends on.
        final Map<String, String> alignments = new HashMap<>();
        final Map<String, int[]> faults = new HashMap<>();

        long call(int method, int[] a) {
            switch (method) {
                case 0: return letter(a[0]);
                case 1: {
                    int n = page.length();
                    page = "";
                    return n;
                }
                case 2: return copy();
                case 3: return correct(a[0]);
                case 4: {
                    if (copies.isEmpty()) {
                        return -103;
                    }
                    copies.remove(copies.size() - 1);
                    return copies.size();
                }
                case 5: {
                    if (a[0] < 0 || a[0] > 9) {
                        return -102;
                    }
                    int before = band;
                    band = a[0];
                    return before;
                }
                case 6: return of(a[0], a[1]);
                case 7: return !in(a[0], copies.size()) || !in(a[1], copies.get(a[0]).length())
                        ? -101 : copies.get(a[0]).charAt(a[1]);
                case 8: return collate(a[0], a[1], a[2]);
                case 9: {
                    String steps = in(a[0], copies.size()) && in(a[1], copies.size()) ? steps(a[0], a[1]) : null;
                    return steps == null || !in(a[2], steps.length()) ? -101 : steps.charAt(a[2]) - '0';
                }
                case 10: return reading(a[0], a[1]);
                case 11: return states(a[0]);
                case 12: return state(a[0], a[1]);
                case 13: {
                    List<List<Integer>> states = stateReadings();
                    return in(a[0], states.size()) && in(a[1], states.size())
                            ? distance(states.get(a[0]), states.get(a[1])) : -101;
                }
                case 14: return in(a[0], stateReadings().size()) && in(a[1], copies.get(0).length())
                        ? turned(a[0], a[1]) : -101;
                case 15: return see(a[0], a[1], a[2], a[3]);
                case 16: {
                    if (!in(a[0], sightings.size())) {
                        return -101;
                    }
                    sightings.remove(a[0]);
                    removed++;
                    return sightings.size();
                }
                case 17: return !in(a[0], sightings.size()) ? -101 : !in(a[1], 4) ? -102 : sightings.get(a[0])[a[1]];
                case 18: return forme(a[0], a[1]);
                case 19: return formes(a[0]);
                case 20: {
                    List<List<Integer>> orders = orders();
                    return orders.isEmpty() || !in(a[0], orders.get(0).size()) ? -101 : orders.get(0).get(a[0]);
                }
                case 21: return count(a[0]);
                default: return digest();
            }
        }

        static boolean in(int i, int n) {
            return 0 <= i && i < n;
        }

        int letter(int code) {
            if (code < 32 || code > 126) {
                return -102;
            }
            if (page.length() == 24) {
                return -104;
            }
            page += (char) code;
            return page.length();
        }

        int copy() {
            if (!page.matches("[a-z]+")) {
                return -103;
            }
            if (copies.size() == 6) {
                return -104;
            }
            copies.add(page);
            page = "";
            taken++;
            return copies.size() - 1;
        }

        int correct(int copy) {
            if (!in(copy, copies.size())) {
                return -101;
            }
            if (!page.matches("[a-z]+")) {
                return -103;
            }
            String before = copies.set(copy, page);
            page = "";
            taken++;
            return before.length();
        }

        /** The steps of the best alignment, as digits; null if there is none. */
        String steps(int one, int other) {
            String a = copies.get(one);
            String b = copies.get(other);
            String key = a + " " + b + " " + band;
            if (!alignments.containsKey(key)) {
                alignments.put(key, bestSteps(a, b));
            }
            return alignments.get(key);
        }

        /** From the front: of each reachable pair of numbers the least (cost, steps), by plain comparison. */
        String bestSteps(String a, String b) {
            String[][] best = new String[a.length() + 1][b.length() + 1];
            for (int i = a.length(); i >= 0; i--) {
                for (int j = b.length(); j >= 0; j--) {
                    if (Math.abs(i - j) > band) {
                        continue;
                    }
                    if (i == a.length() && j == b.length()) {
                        best[i][j] = "";
                        continue;
                    }
                    List<String> ways = new ArrayList<>();
                    if (i < a.length() && j < b.length() && best[i + 1][j + 1] != null) {
                        ways.add("0" + best[i + 1][j + 1]);
                    }
                    if (i < a.length() && best[i + 1][j] != null) {
                        ways.add("1" + best[i + 1][j]);
                    }
                    if (j < b.length() && best[i][j + 1] != null) {
                        ways.add("2" + best[i][j + 1]);
                    }
                    String restA = a.substring(i);
                    String restB = b.substring(j);
                    for (String way : ways) {
                        if (best[i][j] == null || cost(restA, restB, way) < cost(restA, restB, best[i][j])) {
                            best[i][j] = way;
                        }
                    }
                }
            }
            return best[0][0];
        }

        int collate(int one, int other, int what) {
            if (!in(one, copies.size()) || !in(other, copies.size())) {
                return -101;
            }
            if (!in(what, 7)) {
                return -102;
            }
            String steps = steps(one, other);
            if (steps == null) {
                return -1;
            }
            String a = copies.get(one);
            String b = copies.get(other);
            int[] pairs = new int[4];
            int[] kinds = new int[3];
            int i = 0;
            int j = 0;
            for (char step : steps.toCharArray()) {
                kinds[step - '0']++;
                if (step == '0') {
                    pairs[pairCost(a.charAt(i), b.charAt(j))]++;
                }
                i += step != '2' ? 1 : 0;
                j += step != '1' ? 1 : 0;
            }
            return new int[] {cost(a, b, steps), steps.length(), pairs[0], pairs[1], pairs[3], kinds[1], kinds[2]}[what];
        }

        /** The readings of a copy; null if it is excluded. */
        List<Integer> readings(int copy) {
            String steps = steps(0, copy);
            if (steps == null) {
                return null;
            }
            List<Integer> readings = new ArrayList<>();
            int j = 0;
            for (char step : steps.toCharArray()) {
                if (step == '0') {
                    readings.add((int) copies.get(copy).charAt(j));
                } else if (step == '1') {
                    readings.add(-1);
                }
                j += step != '1' ? 1 : 0;
            }
            return readings;
        }

        int reading(int copy, int place) {
            if (!in(copy, copies.size()) || !in(place, copies.get(0).length())) {
                return -101;
            }
            List<Integer> readings = readings(copy);
            return readings == null ? -103 : readings.get(place);
        }

        List<List<Integer>> stateReadings() {
            List<List<Integer>> states = new ArrayList<>();
            for (int copy = 0; copy < copies.size(); copy++) {
                List<Integer> readings = readings(copy);
                if (readings != null && !states.contains(readings)) {
                    states.add(readings);
                }
            }
            return states;
        }

        static int distance(List<Integer> one, List<Integer> other) {
            int sum = 0;
            for (int i = 0; i < one.size(); i++) {
                sum += one.get(i).equals(other.get(i)) ? 0 : 1;
            }
            return sum;
        }

        /** {state, parent} in the order in which the states came to belong to the tree. */
        List<int[]> tree() {
            List<List<Integer>> states = stateReadings();
            List<int[]> tree = new ArrayList<>();
            List<Integer> inside = new ArrayList<>();
            if (!states.isEmpty()) {
                tree.add(new int[] {0, -1});
                inside.add(0);
            }
            while (tree.size() < states.size()) {
                List<int[]> pairs = new ArrayList<>();
                for (int v = 0; v < states.size(); v++) {
                    for (int u : inside) {
                        if (!inside.contains(v)) {
                            pairs.add(new int[] {distance(states.get(u), states.get(v)), u, v});
                        }
                    }
                }
                pairs.sort(Arrays::compare);
                tree.add(new int[] {pairs.get(0)[2], pairs.get(0)[1]});
                inside.add(pairs.get(0)[2]);
            }
            return tree;
        }

        int parent(int state) {
            for (int[] entry : tree()) {
                if (entry[0] == state) {
                    return entry[1];
                }
            }
            return -1;
        }

        List<Integer> ancestors(int state) {
            List<Integer> ancestors = new ArrayList<>();
            for (int s = parent(state); s >= 0; s = parent(s)) {
                ancestors.add(s);
            }
            return ancestors;
        }

        int turned(int state, int place) {
            List<List<Integer>> states = stateReadings();
            List<Integer> ancestors = ancestors(state);
            int reading = states.get(state).get(place);
            if (ancestors.isEmpty() || states.get(ancestors.get(0)).get(place) == reading) {
                return 0;
            }
            for (int ancestor : ancestors) {
                if (states.get(ancestor).get(place) == reading) {
                    return 1;
                }
            }
            return 0;
        }

        int turnedPlaces(int state) {
            int sum = 0;
            for (int place = 0; place < copies.get(0).length(); place++) {
                sum += turned(state, place);
            }
            return sum;
        }

        int of(int copy, int what) {
            if (!in(copy, copies.size())) {
                return -101;
            }
            if (!in(what, 5)) {
                return -102;
            }
            if (what == 0) {
                return copies.get(copy).length();
            }
            List<Integer> readings = readings(copy);
            if (readings == null) {
                return -1;
            }
            if (what == 1) {
                return stateReadings().indexOf(readings);
            }
            if (what == 2) {
                return collate(0, copy, 0);
            }
            if (what == 3) {
                return collate(0, copy, 6);
            }
            int sum = 0;
            for (int i = 0; i < readings.size(); i++) {
                sum += readings.get(i) == copies.get(0).charAt(i) ? 0 : 1;
            }
            return sum;
        }

        int states(int what) {
            if (!in(what, 6)) {
                return -102;
            }
            List<List<Integer>> states = stateReadings();
            int sum = 0;
            if (what == 0) {
                return states.size();
            }
            if (what == 1) {
                for (int copy = 0; copy < copies.size(); copy++) {
                    sum += readings(copy) == null ? 1 : 0;
                }
            }
            if (what == 2) {
                for (int state = 1; state < states.size(); state++) {
                    sum += distance(states.get(state), states.get(parent(state)));
                }
            }
            if (what == 3) {
                for (int place = 0; !states.isEmpty() && place < states.get(0).size(); place++) {
                    List<Integer> kinds = new ArrayList<>();
                    for (List<Integer> readings : states) {
                        if (!kinds.contains(readings.get(place))) {
                            kinds.add(readings.get(place));
                        }
                    }
                    sum += kinds.size() > 1 ? 1 : 0;
                }
            }
            for (int state = 0; state < states.size(); state++) {
                if (what == 4) {
                    sum += turnedPlaces(state);
                }
                if (what == 5) {
                    boolean childless = true;
                    for (int[] entry : tree()) {
                        childless &= entry[1] != state;
                    }
                    sum += childless ? 1 : 0;
                }
            }
            return sum;
        }

        int state(int state, int what) {
            List<List<Integer>> states = stateReadings();
            if (!in(state, states.size())) {
                return -101;
            }
            if (!in(what, 7)) {
                return -102;
            }
            List<Integer> members = new ArrayList<>();
            for (int copy = 0; copy < copies.size(); copy++) {
                if (states.get(state).equals(readings(copy))) {
                    members.add(copy);
                }
            }
            int parent = parent(state);
            int joined = -1;
            for (int i = 0; i < tree().size(); i++) {
                joined = tree().get(i)[0] == state ? i : joined;
            }
            return new int[] {
                members.get(0), members.size(), parent,
                parent < 0 ? 0 : distance(states.get(state), states.get(parent)),
                ancestors(state).size(), turnedPlaces(state), joined
            }[what];
        }

        int see(int type, int forme, int spot, int wear) {
            if (!in(type, 6) || !in(forme, 6) || !in(spot, 10) || wear < 1 || wear > 9) {
                return -102;
            }
            for (int[] s : sightings) {
                if (s[1] == forme && (s[0] == type || s[2] == spot)) {
                    return -103;
                }
            }
            if (sightings.size() == 12) {
                return -104;
            }
            sightings.add(new int[] {type, forme, spot, wear});
            return sightings.size() - 1;
        }

        int seenSet() {
            int set = 0;
            for (int[] s : sightings) {
                set |= 1 << s[1];
            }
            return set;
        }

        static boolean ahead(List<int[]> sightings, int one, int other) {
            for (int[] s : sightings) {
                for (int[] t : sightings) {
                    if (s[0] == t[0] && s[1] == one && t[1] == other && s[3] < t[3]) {
                        return true;
                    }
                }
            }
            return false;
        }

        /** All orders, the lexicographically smallest one first. */
        List<List<Integer>> orders() {
            boolean[][] ahead = new boolean[6][6];
            for (int a = 0; a < 6; a++) {
                for (int b = 0; b < 6; b++) {
                    ahead[a][b] = ahead(sightings, a, b);
                }
            }
            List<List<Integer>> orders = new ArrayList<>();
            permute(seenSet(), new ArrayList<>(), ahead, orders);
            return orders;
        }

        static void permute(int left, List<Integer> order, boolean[][] ahead, List<List<Integer>> orders) {
            if (left == 0) {
                for (int i = 0; i < order.size(); i++) {
                    for (int j = 0; j < i; j++) {
                        if (ahead[order.get(i)][order.get(j)]) {
                            return;
                        }
                    }
                }
                orders.add(new ArrayList<>(order));
                return;
            }
            for (int forme = 0; forme < 6; forme++) {
                if ((left >> forme & 1) != 0) {
                    order.add(forme);
                    permute(left & ~(1 << forme), order, ahead, orders);
                    order.remove(order.size() - 1);
                }
            }
        }

        /** {fault}, by sets with one sighting more each time. */
        int fault() {
            StringBuilder key = new StringBuilder();
            for (int[] s : sightings) {
                key.append(Arrays.toString(s));
            }
            return faults.computeIfAbsent(key.toString(), k -> new int[] {searchFault()})[0];
        }

        int searchFault() {
            for (int size = 0; size <= sightings.size(); size++) {
                for (int set = 0; set < 1 << sightings.size(); set++) {
                    if (Integer.bitCount(set) == size && !hasCycle(set)) {
                        return set;
                    }
                }
            }
            return -1;
        }

        boolean hasCycle(int without) {
            boolean[][] before = new boolean[6][6];
            for (int i = 0; i < sightings.size(); i++) {
                for (int j = 0; j < sightings.size(); j++) {
                    int[] s = sightings.get(i);
                    int[] t = sightings.get(j);
                    if ((without >> i & 1) == 0 && (without >> j & 1) == 0 && s[0] == t[0] && s[3] < t[3]) {
                        before[s[1]][t[1]] = true;
                    }
                }
            }
            for (int k = 0; k < 6; k++) {
                for (int i = 0; i < 6; i++) {
                    for (int j = 0; before[i][k] && j < 6; j++) {
                        before[i][j] |= before[k][j];
                    }
                }
            }
            boolean cycle = false;
            for (int i = 0; i < 6; i++) {
                cycle |= before[i][i];
            }
            return cycle;
        }

        boolean together(int one, int other) {
            for (int[] s : sightings) {
                for (int[] t : sightings) {
                    if (s[1] == one && t[1] == other && s[0] == t[0]) {
                        return false;
                    }
                }
            }
            return true;
        }

        /** {number of presses, press of the smallest seen forme, of the next one, ..}. */
        int[] presses() {
            List<Integer> formes = new ArrayList<>();
            for (int forme = 0; forme < 6; forme++) {
                if ((seenSet() >> forme & 1) != 0) {
                    formes.add(forme);
                }
            }
            int n = formes.size();
            boolean[][] apart = new boolean[n][n];
            for (int i = 0; i < n; i++) {
                for (int j = 0; j < n; j++) {
                    apart[i][j] = !together(formes.get(i), formes.get(j));
                }
            }
            for (int presses = 0; presses <= 6; presses++) {
                int all = (int) Math.round(Math.pow(presses, n));
                for (int way = 0; way < all; way++) {
                    int[] press = new int[n + 1];
                    press[0] = presses;
                    int rest = way;
                    for (int i = n; i >= 1; i--) {
                        press[i] = rest % presses;
                        rest /= presses;
                    }
                    boolean fits = true;
                    for (int i = 0; i < n; i++) {
                        for (int j = 0; j < i; j++) {
                            fits &= press[i + 1] != press[j + 1] || !apart[i][j];
                        }
                    }
                    if (fits) {
                        return press;
                    }
                }
            }
            return new int[] {-1};
        }

        int forme(int forme, int what) {
            if (!in(forme, 6)) {
                return -101;
            }
            if (!in(what, 5)) {
                return -102;
            }
            boolean seen = (seenSet() >> forme & 1) != 0;
            int sum = 0;
            if (what == 0) {
                for (int[] s : sightings) {
                    sum += s[1] == forme ? 1 : 0;
                }
            }
            for (int other = 0; other < 6; other++) {
                if (what == 1 && ahead(sightings, forme, other)) {
                    sum |= 1 << other;
                }
                boolean otherSeen = (seenSet() >> other & 1) != 0;
                if (what == 2 && seen && otherSeen && other != forme && together(forme, other)) {
                    sum |= 1 << other;
                }
            }
            if (what == 3) {
                List<List<Integer>> orders = orders();
                return orders.isEmpty() ? -1 : orders.get(0).indexOf(forme);
            }
            if (what == 4) {
                return seen ? presses()[1 + Integer.bitCount(seenSet() & (1 << forme) - 1)] : -1;
            }
            return sum;
        }

        int formes(int what) {
            int types = 0;
            for (int[] s : sightings) {
                types |= 1 << s[0];
            }
            switch (what) {
                case 0: return Integer.bitCount(seenSet());
                case 1: return orders().size();
                case 2: return Integer.bitCount(fault());
                case 3: return fault();
                case 4: return presses()[0];
                case 5: return types;
                default: return -102;
            }
        }

        int count(int what) {
            return !in(what, 6) ? -102
                    : new int[] {copies.size(), sightings.size(), page.length(), band, taken, removed}[what];
        }

        long digest() {
            List<Integer> values = new ArrayList<>();
            for (int copy = 0; copy < copies.size(); copy++) {
                for (int what = 0; what < 5; what++) {
                    values.add(of(copy, what));
                }
                for (char c : copies.get(copy).toCharArray()) {
                    values.add((int) c);
                }
                if (readings(copy) != null) {
                    values.addAll(readings(copy));
                }
            }
            for (int a = 0; a < copies.size(); a++) {
                for (int b = a + 1; b < copies.size(); b++) {
                    for (int what = 0; what < 7; what++) {
                        values.add(collate(a, b, what));
                    }
                }
            }
            for (int what = 0; what < 6; what++) {
                values.add(states(what));
            }
            for (int state = 0; state < stateReadings().size(); state++) {
                for (int what = 0; what < 7; what++) {
                    values.add(state(state, what));
                }
            }
            for (int[] s : sightings) {
                for (int v : s) {
                    values.add(v);
                }
            }
            for (int forme = 0; forme < 6; forme++) {
                for (int what = 0; what < 5; what++) {
                    values.add(forme(forme, what));
                }
            }
            for (int what = 0; what < 6; what++) {
                values.add(formes(what));
            }
            if (!orders().isEmpty()) {
                values.addAll(orders().get(0));
            }
            for (char c : page.toCharArray()) {
                values.add((int) c);
            }
            for (int what = 0; what < 6; what++) {
                values.add(count(what));
            }
            long h = 1607;
            for (int v : values) {
                h = 31 * h + v;
            }
            return h;
        }
    }
}
