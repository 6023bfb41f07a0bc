/**
 * Analytical bibliography: copies of a printed page are collated, grouped into states and connected
 * by a tree of fewest changes; formes are ordered in time by the wear of damaged types.
 *
 * <p>What is derived (alignments, states, orders, the fault, the presses) is computed when a call
 * first asks for it and kept until a call changes what it was derived from. All rows are made in the
 * constructors, so that no call makes an object.
 */
public final class StopPress {
    public static final int NONE = -1, UNKNOWN = -101, OUTSIDE = -102, STATE = -103, FULL = -104;

    private static final int COPIES = 6;
    private static final int LETTERS = 24;
    private static final int TYPES = 6;
    private static final int FORMES = 6;
    private static final int SIGHTINGS = 12;
    private static final int WIDEST_BAND = 9;

    /** Kinds of steps, numbered as collate() numbers what it counts. */
    private static final int COST = 0, STEPS = 1, EQUAL = 2, SIMILAR = 3, UNLIKE = 4, LEFT_OUT = 5, ADDED = 6;
    private static final int TALLIES = 7;
    private static final int[] COST_OF_KIND = {0, 0, 0, 1, 3, 2, 2};
    private static final int[] STEP_OF_KIND = {0, 0, 0, 0, 0, 1, 2};
    private static final int PAIR_STEP = 0, LEFT_OUT_STEP = 1, ADDED_STEP = 2;

    /** For a to z the group of similar letters; 0 is no group. */
    private static final int[] GROUP_OF_LETTER = {
        0, 5, 4, 0, 4, 3, 0, 5, 1, 1, 0, 1, 0, 2, 4, 0, 0, 6, 3, 6, 2, 2, 0, 0, 0, 0
    };

    /** The columns of a sighting, numbered as seen() numbers them. */
    private static final int TYPE = 0, FORME = 1, SPOT = 2, WEAR = 3, COLUMNS = 4;

    private final Text page;
    private final Collation collation;
    private final Stemma stemma;
    private final Sightings sightings;
    private final Chronology chronology;
    private final Fault fault;
    private final Presses presses;
    private int copiesTaken;
    private int sightingsRemoved;

    public StopPress() {
        page = new Text();
        collation = new Collation();
        stemma = new Stemma();
        sightings = new Sightings();
        chronology = new Chronology();
        fault = new Fault();
        presses = new Presses();
        copiesTaken = 0;
        sightingsRemoved = 0;
    }

    // ---- texts

    public int letter(int code) {
        if (code < 32 || code > 126) {
            return OUTSIDE;
        }
        if (page.size() >= LETTERS) {
            return FULL;
        }
        page.append(code);
        return page.size();
    }

    public int blank() {
        int before = page.size();
        page.clear();
        return before;
    }

    public int copy() {
        if (!page.isWord()) {
            return STATE;
        }
        int number = collation.size();
        if (number >= COPIES) {
            return FULL;
        }
        collation.put(number, page);
        page.clear();
        copiesTaken++;
        return number;
    }

    public int correct(int copy) {
        if (!collation.has(copy)) {
            return UNKNOWN;
        }
        if (!page.isWord()) {
            return STATE;
        }
        int before = collation.text(copy).size();
        collation.put(copy, page);
        page.clear();
        copiesTaken++;
        return before;
    }

    public int drop() {
        if (collation.size() <= 0) {
            return STATE;
        }
        collation.removeLast();
        return collation.size();
    }

    public int band(int v) {
        if (v < 0 || v > WIDEST_BAND) {
            return OUTSIDE;
        }
        int before = collation.reach();
        collation.setReach(v);
        return before;
    }

    // ---- copies

    public int of(int copy, int what) {
        if (!collation.has(copy)) {
            return UNKNOWN;
        }
        if (what < 0 || what > 4) {
            return OUTSIDE;
        }
        stemma.build(collation);
        return describeCopy(copy, what);
    }

    public int sign(int copy, int place) {
        if (!collation.has(copy) || !collation.text(copy).has(place)) {
            return UNKNOWN;
        }
        return collation.text(copy).at(place);
    }

    public int collate(int one, int other, int what) {
        if (!collation.has(one) || !collation.has(other)) {
            return UNKNOWN;
        }
        if (what < 0 || what >= TALLIES) {
            return OUTSIDE;
        }
        return collation.best(one, other).tally(what);
    }

    public int step(int one, int other, int place) {
        if (!collation.has(one) || !collation.has(other)) {
            return UNKNOWN;
        }
        Alignment best = collation.best(one, other);
        return best.hasStep(place) ? best.stepAt(place) : UNKNOWN;
    }

    public int reading(int copy, int place) {
        if (!collation.has(copy) || !collation.text(0).has(place)) {
            return UNKNOWN;
        }
        stemma.build(collation);
        if (stemma.isExcluded(copy)) {
            return STATE;
        }
        return stemma.readingAt(copy, place);
    }

    // ---- states

    public int states(int what) {
        if (what < 0 || what > 5) {
            return OUTSIDE;
        }
        stemma.build(collation);
        return stemma.describeAll(what);
    }

    public int state(int state, int what) {
        stemma.build(collation);
        if (!stemma.has(state)) {
            return UNKNOWN;
        }
        if (what < 0 || what > 6) {
            return OUTSIDE;
        }
        return stemma.describe(state, what);
    }

    public int far(int one, int other) {
        stemma.build(collation);
        if (!stemma.has(one) || !stemma.has(other)) {
            return UNKNOWN;
        }
        return stemma.distance(one, other);
    }

    public int turned(int state, int place) {
        stemma.build(collation);
        if (!stemma.has(state) || !collation.text(0).has(place)) {
            return UNKNOWN;
        }
        return stemma.isReverted(state, place) ? 1 : 0;
    }

    // ---- types and formes

    public int see(int type, int forme, int spot, int wear) {
        if (type < 0 || type >= TYPES || forme < 0 || forme >= FORMES) {
            return OUTSIDE;
        }
        if (spot < 0 || spot > 9 || wear < 1 || wear > 9) {
            return OUTSIDE;
        }
        if (sightings.clash(type, forme, spot)) {
            return STATE;
        }
        int number = sightings.size();
        if (number >= SIGHTINGS) {
            return FULL;
        }
        sightings.add(type, forme, spot, wear);
        return number;
    }

    public int unsee(int sighting) {
        if (!sightings.has(sighting)) {
            return UNKNOWN;
        }
        sightings.remove(sighting);
        sightingsRemoved++;
        return sightings.size();
    }

    public int seen(int sighting, int what) {
        if (!sightings.has(sighting)) {
            return UNKNOWN;
        }
        if (what < 0 || what >= COLUMNS) {
            return OUTSIDE;
        }
        return sightings.get(sighting, what);
    }

    public int forme(int forme, int what) {
        if (forme < 0 || forme >= FORMES) {
            return UNKNOWN;
        }
        if (what < 0 || what > 4) {
            return OUTSIDE;
        }
        return describeForme(forme, what);
    }

    public int formes(int what) {
        if (what < 0 || what > 5) {
            return OUTSIDE;
        }
        return describeFormes(what);
    }

    public int order(int place) {
        chronology.build(sightings);
        return chronology.hasPlace(place) ? chronology.formeAt(place) : UNKNOWN;
    }

    // ---- what is told of all

    public int count(int what) {
        switch (what) {
            case 0:
                return collation.size();
            case 1:
                return sightings.size();
            case 2:
                return page.size();
            case 3:
                return collation.reach();
            case 4:
                return copiesTaken;
            case 5:
                return sightingsRemoved;
            default:
                return OUTSIDE;
        }
    }

    public long digest() {
        stemma.build(collation);
        long h = 1607;
        h = hashCopies(h);
        h = hashPairs(h);
        h = hashStates(h);
        h = hashSightings(h);
        h = hashFormes(h);
        for (int i = 0; i < page.size(); i++) {
            h = 31 * h + page.at(i);
        }
        for (int what = 0; what <= 5; what++) {
            h = 31 * h + count(what);
        }
        return h;
    }

    private long hashCopies(long start) {
        long h = start;
        for (int copy = 0; copy < collation.size(); copy++) {
            for (int what = 0; what <= 4; what++) {
                h = 31 * h + describeCopy(copy, what);
            }
            Text text = collation.text(copy);
            for (int i = 0; i < text.size(); i++) {
                h = 31 * h + text.at(i);
            }
            int places = stemma.isExcluded(copy) ? 0 : collation.text(0).size();
            for (int place = 0; place < places; place++) {
                h = 31 * h + stemma.readingAt(copy, place);
            }
        }
        return h;
    }

    private long hashPairs(long start) {
        long h = start;
        for (int one = 0; one < collation.size(); one++) {
            for (int other = one + 1; other < collation.size(); other++) {
                Alignment best = collation.best(one, other);
                for (int what = 0; what < TALLIES; what++) {
                    h = 31 * h + best.tally(what);
                }
            }
        }
        return h;
    }

    private long hashStates(long start) {
        long h = start;
        for (int what = 0; what <= 5; what++) {
            h = 31 * h + stemma.describeAll(what);
        }
        for (int state = 0; state < stemma.size(); state++) {
            for (int what = 0; what <= 6; what++) {
                h = 31 * h + stemma.describe(state, what);
            }
        }
        return h;
    }

    private long hashSightings(long start) {
        long h = start;
        for (int sighting = 0; sighting < sightings.size(); sighting++) {
            for (int what = 0; what < COLUMNS; what++) {
                h = 31 * h + sightings.get(sighting, what);
            }
        }
        return h;
    }

    private long hashFormes(long start) {
        long h = start;
        for (int forme = 0; forme < FORMES; forme++) {
            for (int what = 0; what <= 4; what++) {
                h = 31 * h + describeForme(forme, what);
            }
        }
        for (int what = 0; what <= 5; what++) {
            h = 31 * h + describeFormes(what);
        }
        for (int place = 0; place < chronology.orderLength(); place++) {
            h = 31 * h + chronology.formeAt(place);
        }
        return h;
    }

    /** The stemma must have been built. */
    private int describeCopy(int copy, int what) {
        if (what == 0) {
            return collation.text(copy).size();
        }
        if (stemma.isExcluded(copy)) {
            return NONE;
        }
        switch (what) {
            case 1:
                return stemma.stateOfCopy(copy);
            case 2:
                return collation.best(0, copy).tally(COST);
            case 3:
                return collation.best(0, copy).tally(ADDED);
            default:
                return stemma.differences(0, copy);
        }
    }

    private int describeForme(int forme, int what) {
        chronology.build(sightings);
        switch (what) {
            case 0:
                return Integer.bitCount(chronology.typesOn(forme));
            case 1:
                return chronology.aheadOf(forme);
            case 2:
                return chronology.companionsOf(forme);
            case 3:
                return chronology.placeOf(forme);
            default:
                presses.build(chronology);
                return presses.pressOf(forme);
        }
    }

    private int describeFormes(int what) {
        chronology.build(sightings);
        switch (what) {
            case 0:
                return Integer.bitCount(chronology.seenSet());
            case 1:
                return chronology.orders();
            case 2:
                fault.build(sightings);
                return Integer.bitCount(fault.set());
            case 3:
                fault.build(sightings);
                return fault.set();
            case 4:
                presses.build(chronology);
                return presses.number();
            default:
                return chronology.typeSet();
        }
    }

    /** A sequence of at most 24 characters: the page, or a copy. */
    private static final class Text {
        private final int[] codes = new int[LETTERS];
        private int length = 0;

        int size() {
            return length;
        }

        boolean has(int index) {
            return index >= 0 && index < length;
        }

        int at(int index) {
            return index >= 0 && index < length ? codes[index] : NONE;
        }

        void append(int code) {
            if (length < codes.length) {
                codes[length] = code;
                length++;
            }
        }

        void clear() {
            length = 0;
        }

        void takeFrom(Text other) {
            length = 0;
            for (int i = 0; i < other.size(); i++) {
                append(other.at(i));
            }
        }

        boolean isWord() {
            for (int i = 0; i < length; i++) {
                if (codes[i] < 'a' || codes[i] > 'z') {
                    return false;
                }
            }
            return length > 0;
        }
    }

    /** The best alignment of two copies, or that there is none. */
    private static final class Alignment {
        private final int[] steps = new int[2 * LETTERS];
        private final int[] tallies = new int[TALLIES];
        private boolean known = false;
        private boolean found = false;

        boolean isKnown() {
            return known;
        }

        boolean isFound() {
            return found;
        }

        void forget() {
            known = false;
        }

        void begin(boolean exists) {
            known = true;
            found = exists;
            for (int i = 0; i < tallies.length; i++) {
                tallies[i] = exists ? 0 : NONE;
            }
        }

        void add(int kind) {
            int length = tallies[STEPS];
            if (!found || length < 0 || length >= steps.length || kind < EQUAL || kind > ADDED) {
                return;
            }
            steps[length] = STEP_OF_KIND[kind];
            tallies[STEPS]++;
            tallies[kind]++;
            tallies[COST] += COST_OF_KIND[kind];
        }

        int tally(int what) {
            return what >= 0 && what < tallies.length ? tallies[what] : NONE;
        }

        int length() {
            return found ? tallies[STEPS] : 0;
        }

        boolean hasStep(int index) {
            return index >= 0 && index < length();
        }

        int stepAt(int index) {
            return hasStep(index) ? steps[index] : NONE;
        }
    }

    /** Finds best alignments; its table is used again for each of them. */
    private static final class Aligner {
        /** Far above every cost, so that a way outside the band is never a best one. */
        private static final int NEVER = 1000000;
        /** A row and a column more than there are numbers of taken letters: these lie outside. */
        private static final int WIDTH = LETTERS + 2;

        private final int[] least = new int[WIDTH * WIDTH];

        void align(Text first, Text second, int band, Alignment result) {
            boolean exists = Math.abs(first.size() - second.size()) <= band;
            result.begin(exists);
            if (exists) {
                fill(first, second, band);
                trace(first, second, result);
            }
        }

        /** The least cost of the steps that follow, for each pair of numbers of taken letters. */
        private void fill(Text first, Text second, int band) {
            int rows = first.size();
            int columns = second.size();
            for (int i = rows + 1; i >= 0; i--) {
                for (int j = columns + 1; j >= 0; j--) {
                    int cell = i * WIDTH + j;
                    if (i > rows || j > columns || Math.abs(i - j) > band) {
                        least[cell] = NEVER;
                    } else if (i == rows && j == columns) {
                        least[cell] = 0;
                    } else {
                        int kind = kindOfPair(first.at(i), second.at(j));
                        int paired = COST_OF_KIND[kind] + least[cell + WIDTH + 1];
                        int leftOut = COST_OF_KIND[LEFT_OUT] + least[cell + WIDTH];
                        int added = COST_OF_KIND[ADDED] + least[cell + 1];
                        least[cell] = Math.min(paired, Math.min(leftOut, added));
                    }
                }
            }
        }

        /** Takes the smallest step that keeps to the least cost, which gives the smallest sequence. */
        private void trace(Text first, Text second, Alignment result) {
            int i = 0;
            int j = 0;
            for (int turn = 0; turn < 2 * LETTERS && (i < first.size() || j < second.size()); turn++) {
                int cell = i * WIDTH + j;
                int kind = kindOfPair(first.at(i), second.at(j));
                boolean more = i < first.size();
                boolean moreOther = j < second.size();
                if (more && moreOther && least[cell] == COST_OF_KIND[kind] + least[cell + WIDTH + 1]) {
                    result.add(kind);
                    i++;
                    j++;
                } else if (more && (!moreOther || least[cell] == COST_OF_KIND[LEFT_OUT] + least[cell + WIDTH])) {
                    result.add(LEFT_OUT);
                    i++;
                } else {
                    result.add(ADDED);
                    j++;
                }
            }
        }

        private static int kindOfPair(int one, int other) {
            if (one == other) {
                return EQUAL;
            }
            int a = one - 'a';
            int b = other - 'a';
            if (a < 0 || a >= GROUP_OF_LETTER.length || b < 0 || b >= GROUP_OF_LETTER.length) {
                return UNLIKE;
            }
            boolean similar = GROUP_OF_LETTER[a] != 0 && GROUP_OF_LETTER[a] == GROUP_OF_LETTER[b];
            return similar ? SIMILAR : UNLIKE;
        }
    }

    /** The copies, the band, and the best alignments of all pairs of copies. */
    private static final class Collation {
        private final Text[] texts = new Text[COPIES];
        private final Alignment[] alignments = new Alignment[COPIES * COPIES];
        private final Aligner aligner = new Aligner();
        private int size = 0;
        private int reach = 3;
        private int changes = 0;

        Collation() {
            for (int i = 0; i < texts.length; i++) {
                texts[i] = new Text();
            }
            for (int i = 0; i < alignments.length; i++) {
                alignments[i] = new Alignment();
            }
        }

        int size() {
            return size;
        }

        int reach() {
            return reach;
        }

        /** Differs from every earlier answer if a copy or the band was set in between. */
        int changes() {
            return changes;
        }

        boolean has(int copy) {
            return copy >= 0 && copy < size;
        }

        /** A number without a copy gives copy 0's text, so that there is always one. */
        Text text(int copy) {
            return texts[has(copy) ? copy : 0];
        }

        void put(int copy, Text page) {
            if (copy < 0 || copy > size || copy >= COPIES) {
                return;
            }
            size = Math.max(size, copy + 1);
            texts[copy].takeFrom(page);
            for (int i = 0; i < COPIES; i++) {
                alignments[copy * COPIES + i].forget();
                alignments[i * COPIES + copy].forget();
            }
            changes++;
        }

        void removeLast() {
            if (size > 0) {
                size--;
                texts[size].clear();
                changes++;
            }
        }

        void setReach(int v) {
            if (v == reach) {
                return;
            }
            reach = v;
            for (int i = 0; i < alignments.length; i++) {
                alignments[i].forget();
            }
            changes++;
        }

        Alignment best(int one, int other) {
            int pair = has(one) && has(other) ? one * COPIES + other : 0;
            Alignment result = alignments[pair];
            if (!result.isKnown()) {
                aligner.align(text(one), text(other), reach, result);
            }
            return result;
        }
    }

    /** The readings of the copies, the states, and the tree that connects them. */
    private static final class Stemma {
        private final int[][] readings = new int[COPIES][LETTERS];
        private final int[] stateOfCopy = new int[COPIES];
        private final int[] firstCopy = new int[COPIES];
        private final int[] members = new int[COPIES];
        private final int[] parent = new int[COPIES];
        private final int[] distanceUp = new int[COPIES];
        private final int[] joined = new int[COPIES];
        /** For each state the set of the places that are reverted at it. */
        private final int[] reverted = new int[COPIES];
        private int size = 0;
        private int places = 0;
        private int excluded = 0;
        private int builtFor = NONE;

        void build(Collation collation) {
            if (builtFor == collation.changes()) {
                return;
            }
            builtFor = collation.changes();
            places = collation.size() > 0 ? collation.text(0).size() : 0;
            size = 0;
            excluded = 0;
            for (int copy = 0; copy < collation.size(); copy++) {
                Alignment best = collation.best(0, copy);
                if (best.isFound()) {
                    read(copy, collation.text(copy), best);
                    group(copy);
                } else {
                    stateOfCopy[copy] = NONE;
                    excluded++;
                }
            }
            connect();
            findReverted();
        }

        private void read(int copy, Text text, Alignment best) {
            int place = 0;
            int taken = 0;
            for (int i = 0; i < best.length(); i++) {
                int step = best.stepAt(i);
                if (step != ADDED_STEP && place < places) {
                    readings[copy][place] = step == PAIR_STEP ? text.at(taken) : NONE;
                    place++;
                }
                if (step != LEFT_OUT_STEP) {
                    taken++;
                }
            }
        }

        private void group(int copy) {
            for (int state = 0; state < size; state++) {
                if (differences(firstCopy[state], copy) == 0) {
                    stateOfCopy[copy] = state;
                    members[state]++;
                    return;
                }
            }
            if (size < COPIES) {
                stateOfCopy[copy] = size;
                firstCopy[size] = copy;
                members[size] = 1;
                size++;
            }
        }

        private void connect() {
            for (int state = 0; state < size; state++) {
                parent[state] = NONE;
                distanceUp[state] = 0;
                joined[state] = state == 0 ? 0 : NONE;
            }
            for (int turn = 1; turn < size; turn++) {
                joinNearest(turn);
            }
        }

        private void joinNearest(int turn) {
            int nearest = LETTERS + 1;
            int from = NONE;
            int to = NONE;
            for (int u = 0; u < size; u++) {
                for (int v = 0; v < size; v++) {
                    if (joined[u] != NONE && joined[v] == NONE && distance(u, v) < nearest) {
                        nearest = distance(u, v);
                        from = u;
                        to = v;
                    }
                }
            }
            if (to >= 0) {
                parent[to] = from;
                distanceUp[to] = nearest;
                joined[to] = turn;
            }
        }

        private void findReverted() {
            for (int state = 0; state < size; state++) {
                reverted[state] = 0;
                for (int place = 0; place < places; place++) {
                    if (goesBack(state, place)) {
                        reverted[state] |= 1 << place;
                    }
                }
            }
        }

        private boolean goesBack(int state, int place) {
            int reading = readingOfState(state, place);
            int above = parentOf(state);
            if (above == NONE || readingOfState(above, place) == reading) {
                return false;
            }
            int ancestor = parentOf(above);
            for (int i = 0; i < size && ancestor != NONE; i++) {
                if (readingOfState(ancestor, place) == reading) {
                    return true;
                }
                ancestor = parentOf(ancestor);
            }
            return false;
        }

        int size() {
            return size;
        }

        boolean has(int state) {
            return state >= 0 && state < size;
        }

        boolean isExcluded(int copy) {
            return stateOfCopy(copy) == NONE;
        }

        int stateOfCopy(int copy) {
            return copy >= 0 && copy < COPIES ? stateOfCopy[copy] : NONE;
        }

        int readingAt(int copy, int place) {
            boolean exists = copy >= 0 && copy < COPIES && place >= 0 && place < places;
            return exists ? readings[copy][place] : NONE;
        }

        /** At how many places the readings of two copies differ. */
        int differences(int one, int other) {
            int sum = 0;
            for (int place = 0; place < places; place++) {
                if (readingAt(one, place) != readingAt(other, place)) {
                    sum++;
                }
            }
            return sum;
        }

        int distance(int one, int other) {
            return has(one) && has(other) ? differences(firstCopy[one], firstCopy[other]) : 0;
        }

        private int readingOfState(int state, int place) {
            return has(state) ? readingAt(firstCopy[state], place) : NONE;
        }

        private int parentOf(int state) {
            return has(state) ? parent[state] : NONE;
        }

        boolean isReverted(int state, int place) {
            return has(state) && place >= 0 && place < places && (reverted[state] >> place & 1) != 0;
        }

        private int ancestors(int state) {
            int sum = 0;
            int above = parentOf(state);
            for (int i = 0; i < size && above != NONE; i++) {
                sum++;
                above = parentOf(above);
            }
            return sum;
        }

        int describe(int state, int what) {
            if (!has(state)) {
                return NONE;
            }
            switch (what) {
                case 0:
                    return firstCopy[state];
                case 1:
                    return members[state];
                case 2:
                    return parent[state];
                case 3:
                    return distanceUp[state];
                case 4:
                    return ancestors(state);
                case 5:
                    return Integer.bitCount(reverted[state]);
                default:
                    return joined[state];
            }
        }

        int describeAll(int what) {
            switch (what) {
                case 0:
                    return size;
                case 1:
                    return excluded;
                case 2:
                    return length();
                case 3:
                    return variedPlaces();
                case 4:
                    return reversions();
                default:
                    return leaves();
            }
        }

        private int length() {
            int sum = 0;
            for (int state = 0; state < size; state++) {
                sum += distanceUp[state];
            }
            return sum;
        }

        private int variedPlaces() {
            int sum = 0;
            for (int place = 0; place < places; place++) {
                boolean varied = false;
                for (int state = 1; state < size; state++) {
                    varied = varied || readingOfState(state, place) != readingOfState(0, place);
                }
                sum += varied ? 1 : 0;
            }
            return sum;
        }

        private int reversions() {
            int sum = 0;
            for (int state = 0; state < size; state++) {
                sum += Integer.bitCount(reverted[state]);
            }
            return sum;
        }

        private int leaves() {
            int parents = 0;
            for (int state = 1; state < size; state++) {
                parents |= 1 << parent[state];
            }
            return size - Integer.bitCount(parents);
        }
    }

    /** The sightings, in the order in which they were added. */
    private static final class Sightings {
        private final int[][] rows = new int[SIGHTINGS][COLUMNS];
        private int size = 0;
        private int changes = 0;

        int size() {
            return size;
        }

        /** Differs from every earlier answer if a sighting was added or removed in between. */
        int changes() {
            return changes;
        }

        boolean has(int sighting) {
            return sighting >= 0 && sighting < size;
        }

        int get(int sighting, int column) {
            return has(sighting) && column >= 0 && column < COLUMNS ? rows[sighting][column] : NONE;
        }

        boolean clash(int type, int forme, int spot) {
            for (int i = 0; i < size; i++) {
                if (rows[i][FORME] == forme && (rows[i][TYPE] == type || rows[i][SPOT] == spot)) {
                    return true;
                }
            }
            return false;
        }

        void add(int type, int forme, int spot, int wear) {
            if (size >= SIGHTINGS) {
                return;
            }
            rows[size][TYPE] = type;
            rows[size][FORME] = forme;
            rows[size][SPOT] = spot;
            rows[size][WEAR] = wear;
            size++;
            changes++;
        }

        void remove(int sighting) {
            if (!has(sighting)) {
                return;
            }
            for (int i = sighting; i + 1 < size; i++) {
                for (int column = 0; column < COLUMNS; column++) {
                    rows[i][column] = rows[i + 1][column];
                }
            }
            size--;
            changes++;
        }

        /** Whether the forme of one sighting is ahead of that of the other by these two. */
        boolean isLessWorn(int one, int other) {
            if (!has(one) || !has(other)) {
                return false;
            }
            return rows[one][TYPE] == rows[other][TYPE] && rows[one][WEAR] < rows[other][WEAR];
        }
    }

    /** Which formes are seen, which are ahead of which, and their orders in time. */
    private static final class Chronology {
        private final int[] typesOn = new int[FORMES];
        private final int[] companions = new int[FORMES];
        private final int[] ahead = new int[FORMES];
        /** For each set of formes the number of its orders. */
        private final int[] ways = new int[1 << FORMES];
        private final int[] first = new int[FORMES];
        private int seenSet = 0;
        private int orders = 0;
        private int builtFor = NONE;

        void build(Sightings sightings) {
            if (builtFor == sightings.changes()) {
                return;
            }
            builtFor = sightings.changes();
            for (int forme = 0; forme < FORMES; forme++) {
                typesOn[forme] = 0;
                ahead[forme] = 0;
            }
            seenSet = 0;
            for (int i = 0; i < sightings.size(); i++) {
                enter(sightings, i);
            }
            for (int forme = 0; forme < FORMES; forme++) {
                companions[forme] = findCompanions(typesOn[forme]);
            }
            countOrders();
            findFirst();
        }

        private void enter(Sightings sightings, int sighting) {
            int forme = sightings.get(sighting, FORME);
            if (forme < 0 || forme >= FORMES) {
                return;
            }
            seenSet |= 1 << forme;
            typesOn[forme] |= 1 << sightings.get(sighting, TYPE);
            for (int other = 0; other < sightings.size(); other++) {
                if (sightings.isLessWorn(sighting, other)) {
                    ahead[forme] |= 1 << sightings.get(other, FORME);
                }
            }
        }

        /** The seen formes that have none of these types; none if there are no types. */
        private int findCompanions(int types) {
            int set = 0;
            for (int other = 0; types != 0 && other < FORMES; other++) {
                if (typesOn[other] != 0 && (typesOn[other] & types) == 0) {
                    set |= 1 << other;
                }
            }
            return set;
        }

        /** The orders of a set are those of the rest of it, for each forme that can come last. */
        private void countOrders() {
            ways[0] = 1;
            for (int set = 1; set < ways.length; set++) {
                ways[set] = 0;
                for (int last = 0; last < FORMES; last++) {
                    boolean inSet = (set >> last & 1) != 0;
                    if (inSet && (ahead[last] & set) == 0) {
                        ways[set] += ways[set ^ 1 << last];
                    }
                }
            }
            orders = ways[seenSet];
        }

        private void findFirst() {
            int left = seenSet;
            for (int place = 0; place < FORMES; place++) {
                int next = firstFree(left);
                first[place] = next;
                if (next != NONE) {
                    left &= ~(1 << next);
                }
            }
        }

        /** The smallest forme of a set of which no other one of the set is ahead. */
        private int firstFree(int set) {
            int behind = 0;
            for (int forme = 0; forme < FORMES; forme++) {
                if ((set >> forme & 1) != 0) {
                    behind |= ahead[forme];
                }
            }
            int free = set & ~behind;
            return free == 0 ? NONE : Integer.numberOfTrailingZeros(free);
        }

        /** What changes() of the sightings was when this was built. */
        int builtFor() {
            return builtFor;
        }

        int seenSet() {
            return seenSet;
        }

        int orders() {
            return orders;
        }

        int typesOn(int forme) {
            return forme >= 0 && forme < FORMES ? typesOn[forme] : 0;
        }

        int aheadOf(int forme) {
            return forme >= 0 && forme < FORMES ? ahead[forme] : 0;
        }

        int typeSet() {
            int set = 0;
            for (int forme = 0; forme < FORMES; forme++) {
                set |= typesOn[forme];
            }
            return set;
        }

        /** The other seen formes with which a forme can stand together. */
        int companionsOf(int forme) {
            return forme >= 0 && forme < FORMES ? companions[forme] : 0;
        }

        /** How many formes the first order has; 0 if there is no order. */
        int orderLength() {
            return orders > 0 ? Integer.bitCount(seenSet) : 0;
        }

        boolean hasPlace(int place) {
            return place >= 0 && place < orderLength();
        }

        int formeAt(int place) {
            return hasPlace(place) && place < FORMES ? first[place] : NONE;
        }

        int placeOf(int forme) {
            int length = orderLength();
            for (int place = 0; place < length && place < FORMES; place++) {
                if (first[place] == forme) {
                    return place;
                }
            }
            return NONE;
        }
    }

    /** The smallest set of sightings without which there is an order. */
    private static final class Fault {
        private static final int MOST_PAIRS = SIGHTINGS * (SIGHTINGS - 1) / 2;

        /** For each pair of sightings that puts a forme ahead of another one: the two, and the formes. */
        private final int[] pair = new int[MOST_PAIRS];
        private final int[] sooner = new int[MOST_PAIRS];
        private final int[] later = new int[MOST_PAIRS];
        private final int[] ahead = new int[FORMES];
        private int pairs = 0;
        private int set = 0;
        private int builtFor = NONE;

        int set() {
            return set;
        }

        void build(Sightings sightings) {
            if (builtFor == sightings.changes()) {
                return;
            }
            builtFor = sightings.changes();
            findPairs(sightings);
            search(sightings.size());
        }

        private void findPairs(Sightings sightings) {
            pairs = 0;
            for (int one = 0; one < sightings.size(); one++) {
                for (int other = 0; other < sightings.size(); other++) {
                    if (pairs < MOST_PAIRS && sightings.isLessWorn(one, other)) {
                        pair[pairs] = 1 << one | 1 << other;
                        sooner[pairs] = sightings.get(one, FORME);
                        later[pairs] = sightings.get(other, FORME);
                        pairs++;
                    }
                }
            }
        }

        /** Goes up through all sets, so that of those with the fewest sightings the smallest stays. */
        private void search(int sightings) {
            int fewest = sightings + 1;
            for (int tried = 0; tried < 1 << sightings && fewest > 0; tried++) {
                if (Integer.bitCount(tried) < fewest && hasOrderWithout(tried)) {
                    fewest = Integer.bitCount(tried);
                    set = tried;
                }
            }
        }

        private boolean hasOrderWithout(int leftOut) {
            for (int forme = 0; forme < FORMES; forme++) {
                ahead[forme] = 0;
            }
            for (int i = 0; i < pairs; i++) {
                int forme = sooner[i];
                if ((pair[i] & leftOut) == 0 && forme >= 0 && forme < FORMES) {
                    ahead[forme] |= 1 << later[i];
                }
            }
            return hasNoCycle();
        }

        /** Takes away, again and again, the formes that are behind none of those that are left. */
        private boolean hasNoCycle() {
            int left = (1 << FORMES) - 1;
            for (int turn = 0; turn < FORMES && left != 0; turn++) {
                int behind = 0;
                for (int forme = 0; forme < FORMES; forme++) {
                    if ((left >> forme & 1) != 0) {
                        behind |= ahead[forme];
                    }
                }
                left &= behind;
            }
            return left == 0;
        }
    }

    /** The assignment of the seen formes to as few presses as possible. */
    private static final class Presses {
        private final int[] pressOf = new int[FORMES];
        private int number = 0;
        private int builtFor = NONE;

        int number() {
            return number;
        }

        int pressOf(int forme) {
            return forme >= 0 && forme < FORMES ? pressOf[forme] : NONE;
        }

        void build(Chronology chronology) {
            if (builtFor == chronology.builtFor()) {
                return;
            }
            builtFor = chronology.builtFor();
            boolean enough = false;
            for (int tried = 0; tried <= FORMES && !enough; tried++) {
                enough = assign(chronology, pressOf, tried, 0);
                number = tried;
            }
        }

        /** Assigns the formes from this one on, trying the presses upwards; false if there are too few. */
        private static boolean assign(Chronology chronology, int[] pressOf, int presses, int forme) {
            if (forme >= FORMES) {
                return true;
            }
            pressOf[forme] = NONE;
            if (chronology.typesOn(forme) == 0) {
                return assign(chronology, pressOf, presses, forme + 1);
            }
            for (int press = 0; press < presses; press++) {
                pressOf[forme] = press;
                if (fits(chronology, pressOf, forme) && assign(chronology, pressOf, presses, forme + 1)) {
                    return true;
                }
            }
            return false;
        }

        private static boolean fits(Chronology chronology, int[] pressOf, int forme) {
            int companions = chronology.companionsOf(forme);
            for (int other = 0; other < forme; other++) {
                if (pressOf[other] == pressOf[forme] && (companions >> other & 1) == 0) {
                    return false;
                }
            }
            return true;
        }
    }
}
