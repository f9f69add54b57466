import java.util.Arrays;

public final class EvenWire {
    public static final int NONE = -1, BAD = -2, NOT = -3, FULL = -4;

    private static final int MOST_STATES = 100;
    private static final int LONGEST_ROW = 60;
    private static final int LONGEST_STEP = 12;
    private static final int LONGEST_WORD = 6;
    private static final int MOST_BUILDS = 40;
    private static final int MOST_WEIGHT = 1000000;
    private static final int MOST_BEST = 200;
    private static final int MOST_PIECE = 8;
    private static final int MOST_MESSAGE = 240;
    private static final int MOST_PLATE = 600;
    private static final int FAULT = -100;

    private final Bans bans;
    private final Maker maker;
    private final Wire wire;
    private final Ladder anywhere;
    private final Ladder paths;
    private final Missing missing;
    private final Weights weights;
    private final Codebook codebook;
    private final Bits messageBits;
    private final Bits plateBits;
    private final Bits draft;
    private int builds;

    public EvenWire() {
        bans = new Bans();
        maker = new Maker();
        wire = new Wire();
        anywhere = new Ladder();
        paths = new Ladder();
        missing = new Missing();
        weights = new Weights();
        codebook = new Codebook();
        messageBits = new Bits();
        plateBits = new Bits();
        draft = new Bits();
    }

    // ---- bans

    public int runs(int d, int k) {
        boolean none = d == 0 && k == NONE;
        boolean some = isWithin(k, 0, 7) && isWithin(d, 0, k);
        if (!none && !some) {
            return BAD;
        }
        bans.tellRuns(d, k);
        return 1;
    }

    public int word(int bits, int n) {
        if (!isWithin(n, 1, LONGEST_WORD) || !isRow(bits, n)) {
            return BAD;
        }
        return bans.addWord(bits, n);
    }

    public int clearWords() {
        return bans.dropWords();
    }

    public int lean(int l) {
        if (!isWithin(l, NONE, Bans.MOST_LEAN)) {
            return BAD;
        }
        bans.tellLean(l);
        return 1;
    }

    public int ban(int what) {
        return bans.told(what);
    }

    // ---- the wire

    public int build() {
        if (builds >= MOST_BUILDS) {
            return FULL;
        }
        builds++;
        if (!maker.make(bans)) {
            return FULL;
        }
        wire.take(maker);
        anywhere.setAll(1);
        anywhere.climb(wire, LONGEST_ROW);
        missing.forget();
        weights.setAll(0);
        codebook.drop();
        return wire.size();
    }

    public int states() {
        return wire.size();
    }

    public int go(int state, int bit) {
        if (!wire.has(state) || !isWithin(bit, 0, 1)) {
            return BAD;
        }
        return wire.step(state, bit);
    }

    public int walk(int state, long row, int n) {
        if (!wire.has(state) || !isRow(row, n)) {
            return BAD;
        }
        return wire.follow(state, row, n);
    }

    public long first(int state, int what) {
        if (!wire.has(state) || !isWithin(what, 0, 1)) {
            return BAD;
        }
        return what == 0 ? wire.depthOf(state) : wire.shortestRow(state);
    }

    public long count(int state, int n) {
        if (!wire.has(state) || !isWithin(n, 0, LONGEST_ROW)) {
            return BAD;
        }
        return anywhere.at(n, state);
    }

    public long number(int state, long row, int n) {
        if (!wire.has(state) || !isRow(row, n)) {
            return BAD;
        }
        return anywhere.rank(wire, state, row, n);
    }

    public long row(int state, long number, int n) {
        if (!wire.has(state) || number < 0 || !isWithin(n, 0, LONGEST_ROW)) {
            return BAD;
        }
        return anywhere.pick(wire, state, number, n);
    }

    public int ways(int i, int j, int n) {
        if (!wire.has(i) || !wire.has(j) || !isWithin(n, 0, LONGEST_STEP)) {
            return BAD;
        }
        paths.setAll(0);
        paths.set(j, 1);
        paths.climb(wire, n);
        return (int) paths.at(n, i);
    }

    public int mark(int most) {
        if (!isWithin(most, 1, Missing.LONGEST)) {
            return BAD;
        }
        if (wire.size() == 0) {
            return NOT;
        }
        return missing.find(wire, most);
    }

    public int marked() {
        return missing.lastFound();
    }

    // ---- weights

    public int weigh(int state, int v) {
        if (!wire.has(state) || !isWithin(v, 0, MOST_WEIGHT)) {
            return BAD;
        }
        int was = weights.of(state);
        weights.set(state, v);
        return was;
    }

    public int weight(int state) {
        if (!wire.has(state)) {
            return BAD;
        }
        return weights.of(state);
    }

    public int judge(int m, int n) {
        if (!isShowable(m, n)) {
            return BAD;
        }
        if (wire.size() == 0) {
            return NOT;
        }
        return weights.firstTooGreat(wire, paths, m, n);
    }

    public int best(int m, int n, int most) {
        if (!isShowable(m, n) || !isWithin(most, 1, MOST_BEST)) {
            return BAD;
        }
        if (wire.size() == 0) {
            return NOT;
        }
        weights.raise(wire, most);
        weights.settle(wire, paths, m, n);
        return weights.sum();
    }

    // ---- codes

    public int code(int m, int n) {
        if (!isWithin(m, 1, MOST_PIECE) || !isWithin(n, 1, LONGEST_STEP)) {
            return BAD;
        }
        if (wire.size() == 0) {
            return NOT;
        }
        codebook.find(wire, m, n);
        return codebook.size();
    }

    public int member(int state) {
        if (!wire.has(state)) {
            return BAD;
        }
        if (!codebook.exists()) {
            return NOT;
        }
        return codebook.holds(state) ? 1 : 0;
    }

    public int wordOf(int state, int v) {
        if (!codebook.exists()) {
            return NOT;
        }
        if (!codebook.holds(state) || !isRow(v, codebook.pieceLength())) {
            return BAD;
        }
        return codebook.wordFor(wire, state, v);
    }

    public int read(int state, int word) {
        if (!codebook.exists()) {
            return NOT;
        }
        if (!codebook.holds(state) || !isRow(word, codebook.wordLength())) {
            return BAD;
        }
        return codebook.pieceFor(wire, state, word);
    }

    // ---- messages, plates

    public int say(long bits, int n) {
        return append(messageBits, bits, n, MOST_MESSAGE);
    }

    public int hush() {
        return messageBits.keep(0);
    }

    public int message(int i) {
        return messageBits.at(i);
    }

    public int write() {
        if (!codebook.exists()) {
            return NOT;
        }
        if (codebook.lengthWritten(messageBits) > MOST_PLATE) {
            return FULL;
        }
        codebook.encode(wire, messageBits, plateBits);
        return plateBits.size();
    }

    public int tell() {
        if (!codebook.exists()) {
            return NOT;
        }
        int fault = codebook.decode(wire, plateBits, draft);
        if (fault != NONE) {
            return FAULT - fault;
        }
        if (draft.size() > MOST_MESSAGE) {
            return FULL;
        }
        messageBits.copy(draft);
        return messageBits.size();
    }

    public int put(long bits, int n) {
        return append(plateBits, bits, n, MOST_PLATE);
    }

    public int cut(int n) {
        if (!isWithin(n, 0, plateBits.size())) {
            return BAD;
        }
        return plateBits.keep(n);
    }

    public int spoil(int i) {
        return plateBits.flip(i);
    }

    public int plate(int i) {
        return plateBits.at(i);
    }

    public int check() {
        if (wire.size() == 0) {
            return NOT;
        }
        int state = 0;
        for (int i = 0; i < plateBits.size(); i++) {
            state = wire.step(state, plateBits.at(i));
            if (state == NONE) {
                return i;
            }
        }
        return NONE;
    }

    public int shape(int what) {
        switch (what) {
            case 0:
                return plateBits.leastLean();
            case 1:
                return plateBits.greatestLean();
            case 2:
                return plateBits.leanSquares();
            case 3:
                return plateBits.longestRun();
            case 4:
                return plateBits.turns();
            default:
                return BAD;
        }
    }

    public int count(int what) {
        switch (what) {
            case 0:
                return messageBits.size();
            case 1:
                return plateBits.size();
            case 2:
                return wire.size();
            case 3:
                return codebook.size();
            case 4:
                return codebook.pieceLength();
            case 5:
                return codebook.wordLength();
            case 6:
                return codebook.home();
            case 7:
                return builds;
            default:
                return BAD;
        }
    }

    public long digest() {
        long h = 17;
        for (int what = 0; what <= 7; what++) {
            h = 31 * h + count(what);
        }
        for (int state = 0; state < wire.size(); state++) {
            h = 31 * h + wire.step(state, 0);
            h = 31 * h + wire.step(state, 1);
            h = 31 * h + weights.of(state);
        }
        return plateBits.digestBehind(messageBits.digestBehind(h));
    }

    // ---- what is asked of arguments

    private static boolean isWithin(int x, int least, int most) {
        return x >= least && x <= most;
    }

    private static boolean isRow(long row, int n) {
        return isWithin(n, 0, LONGEST_ROW) && row >= 0 && row < (1L << n);
    }

    private static boolean isShowable(int m, int n) {
        return isWithin(m, 0, LONGEST_STEP) && isWithin(n, 1, LONGEST_STEP);
    }

    private static int append(Bits to, long bits, int n, int most) {
        if (!isRow(bits, n)) {
            return BAD;
        }
        if (to.size() + n > most) {
            return FULL;
        }
        to.add(bits, n);
        return to.size();
    }

    /**
     * The BANS as told, and what they ask of a ROW bit by bit.
     *
     * A key stands for all ROWS that the BANS can't tell apart by what comes
     * behind: the last bits of the ROW below a leading 1, and its LEAN above.
     */
    private static final class Bans {
        static final int MOST_LEAN = 5;
        /** The longest RUN of 0s, 7, is the most that a ROW's end must show. */
        static final int PASTS = 256;
        static final int KEYS = (2 * MOST_LEAN + 1) * PASTS;
        private static final int MOST_WORDS = 4;
        private static final int FIRST_BITS = 10;
        private static final int FIRST_LENGTH = 20;

        private final int[] wordBits = new int[MOST_WORDS];
        private final int[] wordLengths = new int[MOST_WORDS];
        private int words = 0;
        private int fewest = 0;
        private int most = NONE;
        private int lean = NONE;

        void tellRuns(int d, int k) {
            fewest = d;
            most = k;
        }

        int addWord(int bits, int n) {
            if (words >= MOST_WORDS) {
                return FULL;
            }
            wordBits[words] = bits;
            wordLengths[words] = n;
            words++;
            return words;
        }

        int dropWords() {
            int were = words;
            words = 0;
            return were;
        }

        void tellLean(int l) {
            lean = l;
        }

        int told(int what) {
            switch (what) {
                case 0:
                    return fewest;
                case 1:
                    return most;
                case 2:
                    return words;
                case 3:
                    return lean;
                default:
                    return toldOfWord(what);
            }
        }

        private int toldOfWord(int what) {
            for (int i = 0; i < words; i++) {
                if (what == FIRST_BITS + i) {
                    return wordBits[i];
                }
                if (what == FIRST_LENGTH + i) {
                    return wordLengths[i];
                }
            }
            return BAD;
        }

        /** How many of its last bits tell all that RUNS and WORDS ask of a ROW. */
        int memory() {
            int bits = Math.max(most, 0);
            for (int i = 0; i < words; i++) {
                bits = Math.max(bits, wordLengths[i] - 1);
            }
            return bits;
        }

        int emptyKey() {
            return MOST_LEAN * PASTS + 1;
        }

        /** The key of a ROW with a bit behind it; NONE, if the BANS forbid that. */
        int keyAfter(int key, int bit, int memory) {
            int leaning = key / PASTS - MOST_LEAN;
            int past = key % PASTS;
            if (lean != NONE) {
                leaning += bit == 1 ? 1 : -1;
                if (leaning < -lean || leaning > lean) {
                    return NONE;
                }
            }
            int grown = 2 * past + bit;
            if (breaksRuns(past, bit) || endsInWord(grown)) {
                return NONE;
            }
            return (leaning + MOST_LEAN) * PASTS + shortened(grown, memory);
        }

        private boolean breaksRuns(int past, int bit) {
            if (most == NONE) {
                return false;
            }
            int zeros = Integer.numberOfTrailingZeros(past);
            if (bit == 0) {
                return zeros + 1 > most;
            }
            // What is left behind the zeros is the leading 1 alone, if no 1 is in sight.
            boolean hasOne = (past >> zeros) > 1;
            return hasOne && zeros < fewest;
        }

        private boolean endsInWord(int grown) {
            for (int i = 0; i < words; i++) {
                int size = 1 << wordLengths[i];
                if (grown >= size && grown % size == wordBits[i]) {
                    return true;
                }
            }
            return false;
        }

        private static int shortened(int grown, int memory) {
            int top = 1 << memory;
            return grown < 2 * top ? grown : top + grown % top;
        }
    }

    /** Makes the fewest STATES out of the keys that the BANS lead to. */
    private static final class Maker {
        private static final int WIDTH = MOST_STATES + 1;

        private final int[] placeOf = new int[Bans.KEYS];
        private final int[] keys = new int[Bans.KEYS];
        private final int[] next = new int[2 * Bans.KEYS];
        private final int[] group = new int[Bans.KEYS];
        private final int[] fresh = new int[Bans.KEYS];
        private final int[] table = new int[WIDTH * WIDTH];
        private int base = 0;
        private int found = 0;
        private int groups = 0;

        /** Whether the STATES are not too many; they are then what fill() gives. */
        boolean make(Bans bans) {
            explore(bans);
            dropDead();
            if (group[0] == NONE) {
                groups = 0;
                return true;
            }
            groups = 1;
            return refine();
        }

        int made() {
            return groups;
        }

        /** Keys get their places in the order of the first ROWS that lead to them. */
        private void explore(Bans bans) {
            int memory = bans.memory();
            Arrays.fill(placeOf, NONE);
            found = 0;
            placeFor(bans.emptyKey());
            for (int at = 0; at < Bans.KEYS; at++) {
                if (at >= found) {
                    break;
                }
                next[2 * at] = placeFor(bans.keyAfter(keys[at], 0, memory));
                next[2 * at + 1] = placeFor(bans.keyAfter(keys[at], 1, memory));
            }
        }

        private int placeFor(int key) {
            if (key < 0 || key >= Bans.KEYS) {
                return NONE;
            }
            if (placeOf[key] == NONE && found < Bans.KEYS) {
                placeOf[key] = found;
                keys[found] = key;
                group[found] = 0;
                found++;
            }
            return placeOf[key];
        }

        private void dropDead() {
            for (int round = 0; round <= Bans.KEYS; round++) {
                if (!dropDeadOnce()) {
                    return;
                }
            }
        }

        private boolean dropDeadOnce() {
            boolean dropped = false;
            for (int at = found - 1; at >= 0; at--) {
                if (group[at] != NONE && groupAfter(at, 0) == NONE && groupAfter(at, 1) == NONE) {
                    group[at] = NONE;
                    dropped = true;
                }
            }
            return dropped;
        }

        private int groupAfter(int at, int bit) {
            int to = next[2 * at + bit];
            return to < 0 || to >= found ? NONE : group[to];
        }

        /** Splits groups until none goes to two groups by one bit; false: too many. */
        private boolean refine() {
            for (int round = 0; round <= MOST_STATES; round++) {
                int before = groups;
                if (!split(0) || !split(1)) {
                    return false;
                }
                if (groups == before) {
                    return true;
                }
            }
            return false;
        }

        /**
         * Groups are numbered anew by their first places. A cell of the table below
         * the base is one that an earlier split left there, so none need be cleared.
         */
        private boolean split(int bit) {
            int made = 0;
            base += WIDTH;
            for (int at = 0; at < found; at++) {
                if (group[at] == NONE) {
                    fresh[at] = NONE;
                    continue;
                }
                int cell = group[at] * WIDTH + groupAfter(at, bit) + 1;
                if (table[cell] < base) {
                    if (made >= MOST_STATES) {
                        return false;
                    }
                    table[cell] = base + made;
                    made++;
                }
                fresh[at] = table[cell] - base;
            }
            System.arraycopy(fresh, 0, group, 0, found);
            groups = made;
            return true;
        }

        /** Where each STATE goes: by 0 at twice its number, by 1 behind that. */
        void fill(int[] goes) {
            int state = 0;
            for (int at = 0; at < found; at++) {
                if (group[at] == state && 2 * state + 1 < goes.length) {
                    goes[2 * state] = groupAfter(at, 0);
                    goes[2 * state + 1] = groupAfter(at, 1);
                    state++;
                }
            }
        }
    }

    /** THE WIRE: its STATES, where they go, and how they are come to first. */
    private static final class Wire {
        private final int[] next = new int[2 * MOST_STATES];
        private final int[] parent = new int[MOST_STATES];
        private final int[] lastBit = new int[MOST_STATES];
        private final int[] depth = new int[MOST_STATES];
        private int size = 0;

        void take(Maker maker) {
            size = Math.min(maker.made(), MOST_STATES);
            maker.fill(next);
            Arrays.fill(parent, NONE);
            Arrays.fill(depth, 0);
            // STATES stand in the order of their first ROWS: who leads there first is ahead in it.
            for (int state = 0; state < size; state++) {
                adopt(state, 0);
                adopt(state, 1);
            }
        }

        private void adopt(int state, int bit) {
            int child = step(state, bit);
            if (child != 0 && has(child) && parent[child] == NONE) {
                parent[child] = state;
                lastBit[child] = bit;
                depth[child] = depth[state] + 1;
            }
        }

        int size() {
            return size;
        }

        boolean has(int state) {
            return state >= 0 && state < size;
        }

        int step(int state, int bit) {
            if (!has(state) || bit < 0 || bit > 1) {
                return NONE;
            }
            return next[2 * state + bit];
        }

        int follow(int state, long row, int n) {
            int at = state;
            for (int i = n - 1; i >= 0; i--) {
                at = step(at, (int) (row >> i) & 1);
            }
            return at;
        }

        int depthOf(int state) {
            return has(state) ? depth[state] : 0;
        }

        int parentOf(int state) {
            return has(state) ? parent[state] : NONE;
        }

        int lastBitOf(int state) {
            return has(state) ? lastBit[state] : 0;
        }

        long shortestRow(int state) {
            int bits = depthOf(state);
            if (bits > LONGEST_ROW) {
                return NONE;
            }
            long row = 0;
            int at = state;
            for (int i = 0; i < bits; i++) {
                row |= (long) lastBitOf(at) << i;
                at = parentOf(at);
            }
            return row;
        }
    }

    /**
     * Sums over the rows of 0, 1, 2 .. bits that lead from each STATE: of what the
     * STATE counts at which the row ends (rung 0 says how much that is).
     */
    private static final class Ladder {
        private static final int RUNGS = LONGEST_ROW + 1;

        private final long[] sums = new long[RUNGS * MOST_STATES];

        void setAll(long value) {
            Arrays.fill(sums, 0, MOST_STATES, value);
        }

        void set(int state, long value) {
            if (state >= 0 && state < MOST_STATES) {
                sums[state] = value;
            }
        }

        long at(int rung, int state) {
            if (rung < 0 || rung >= RUNGS || state < 0 || state >= MOST_STATES) {
                return 0;
            }
            return sums[rung * MOST_STATES + state];
        }

        void climb(Wire wire, int top) {
            for (int rung = 1; rung <= top && rung < RUNGS; rung++) {
                for (int state = 0; state < wire.size() && state < MOST_STATES; state++) {
                    sums[rung * MOST_STATES + state] =
                        at(rung - 1, wire.step(state, 0)) + at(rung - 1, wire.step(state, 1));
                }
            }
        }

        /** How many counted rows of n bits are less than a row; NONE: it counts nothing. */
        long rank(Wire wire, int state, long row, int n) {
            long less = 0;
            int at = state;
            for (int i = n - 1; i >= 0; i--) {
                int bit = (int) (row >> i) & 1;
                if (bit == 1) {
                    less += at(i, wire.step(at, 0));
                }
                at = wire.step(at, bit);
            }
            return at(0, at) == 0 ? NONE : less;
        }

        /** The counted row of n bits of which so many are less; NONE: there is none. */
        long pick(Wire wire, int state, long number, int n) {
            if (number >= at(n, state)) {
                return NONE;
            }
            long row = 0;
            long left = number;
            int at = state;
            for (int i = n - 1; i >= 0; i--) {
                long ahead = at(i, wire.step(at, 0));
                int bit = left < ahead ? 0 : 1;
                if (bit == 1) {
                    left -= ahead;
                }
                row = 2 * row + bit;
                at = wire.step(at, bit);
            }
            return row;
        }
    }

    /**
     * The shortest word that no GOOD ROW has in it. A word x with a leading 1
     * is an index: there stand the STATES (0 to 63, 64 and above) where x can end.
     */
    private static final class Missing {
        static final int LONGEST = 12;
        private static final int HALF = 64;

        private final long[] low = new long[2 << LONGEST];
        private final long[] high = new long[2 << LONGEST];
        private int searched = 0;
        private int length = NONE;
        private int bits = 0;
        private int last = 0;

        void forget() {
            searched = 0;
            length = NONE;
            bits = 0;
            last = 0;
        }

        int lastFound() {
            return last;
        }

        int find(Wire wire, int most) {
            if (searched == 0) {
                startAnywhere(wire);
            }
            for (int n = searched + 1; n <= most && n <= LONGEST && length == NONE; n++) {
                searchLength(wire, n);
                searched = n;
            }
            if (length == NONE || length > most) {
                return NONE;
            }
            last = bits;
            return length;
        }

        private void startAnywhere(Wire wire) {
            low[1] = 0;
            high[1] = 0;
            for (int state = 0; state < wire.size(); state++) {
                addEnd(1, state);
            }
        }

        private void searchLength(Wire wire, int n) {
            int words = 1 << n;
            for (int word = 0; word < words; word++) {
                int x = words + word;
                low[x] = 0;
                high[x] = 0;
                goOn(wire, x, low[x >> 1], 0);
                goOn(wire, x, high[x >> 1], HALF);
                if (low[x] == 0 && high[x] == 0) {
                    length = n;
                    bits = word;
                    return;
                }
            }
        }

        private void goOn(Wire wire, int x, long ends, int first) {
            long rest = ends;
            for (int i = 0; i < HALF && rest != 0; i++) {
                addEnd(x, wire.step(first + Long.numberOfTrailingZeros(rest), x & 1));
                rest &= rest - 1;
            }
        }

        private void addEnd(int x, int state) {
            if (state == NONE) {
                return;
            }
            if (state < HALF) {
                low[x] |= 1L << state;
            } else {
                high[x] |= 1L << (state - HALF);
            }
        }
    }

    /** The WEIGHTS of the STATES, and what they show. */
    private static final class Weights {
        private final int[] weights = new int[MOST_STATES];

        void setAll(int value) {
            Arrays.fill(weights, value);
        }

        void set(int state, int value) {
            if (state >= 0 && state < MOST_STATES) {
                weights[state] = value;
            }
        }

        int of(int state) {
            return state >= 0 && state < MOST_STATES ? weights[state] : 0;
        }

        int sum() {
            int all = 0;
            for (int state = 0; state < MOST_STATES; state++) {
                all += weights[state];
            }
            return all;
        }

        void raise(Wire wire, int value) {
            for (int state = 0; state < wire.size(); state++) {
                set(state, value);
            }
        }

        int firstTooGreat(Wire wire, Ladder ladder, int m, int n) {
            if (sum() == 0) {
                return 0;
            }
            weighEnds(wire, ladder, n);
            for (int state = 0; state < wire.size(); state++) {
                if (ladder.at(n, state) < (long) of(state) << m) {
                    return state;
                }
            }
            return NONE;
        }

        /** What is lowered is above all WEIGHTS that show m by n, so the greatest of them stay. */
        void settle(Wire wire, Ladder ladder, int m, int n) {
            for (int round = 0; round <= MOST_STATES * MOST_BEST; round++) {
                if (!lower(wire, ladder, m, n)) {
                    return;
                }
            }
        }

        private boolean lower(Wire wire, Ladder ladder, int m, int n) {
            boolean lowered = false;
            weighEnds(wire, ladder, n);
            for (int state = 0; state < wire.size(); state++) {
                long bearable = ladder.at(n, state) >> m;
                if (bearable < of(state)) {
                    set(state, (int) bearable);
                    lowered = true;
                }
            }
            return lowered;
        }

        private void weighEnds(Wire wire, Ladder ladder, int n) {
            for (int state = 0; state < wire.size(); state++) {
                ladder.set(state, of(state));
            }
            ladder.climb(wire, n);
        }
    }

    /** The CODE, if there is one, and writing and reading by it. */
    private static final class Codebook {
        private final Ladder toMembers = new Ladder();
        private final int[] members = new int[MOST_STATES];
        private final Bits lead = new Bits();
        private int size = 0;
        private int pieceLength = 0;
        private int wordLength = 0;
        private int home = NONE;

        boolean exists() {
            return size > 0;
        }

        int size() {
            return size;
        }

        int pieceLength() {
            return pieceLength;
        }

        int wordLength() {
            return wordLength;
        }

        int home() {
            return home;
        }

        boolean holds(int state) {
            return state >= 0 && state < MOST_STATES && members[state] == 1;
        }

        void drop() {
            Arrays.fill(members, 0);
            lead.keep(0);
            size = 0;
            pieceLength = 0;
            wordLength = 0;
            home = NONE;
        }

        void find(Wire wire, int m, int n) {
            drop();
            for (int state = 0; state < wire.size() && state < MOST_STATES; state++) {
                members[state] = 1;
            }
            for (int round = 0; round <= MOST_STATES; round++) {
                if (!dropPoor(wire, 1 << m, n)) {
                    break;
                }
            }
            enroll(wire, m, n);
        }

        private boolean dropPoor(Wire wire, int words, int n) {
            boolean dropped = false;
            for (int state = 0; state < wire.size() && state < MOST_STATES; state++) {
                toMembers.set(state, members[state]);
            }
            toMembers.climb(wire, n);
            for (int state = 0; state < wire.size() && state < MOST_STATES; state++) {
                if (members[state] == 1 && toMembers.at(n, state) < words) {
                    members[state] = 0;
                    dropped = true;
                }
            }
            return dropped;
        }

        private void enroll(Wire wire, int m, int n) {
            for (int state = MOST_STATES - 1; state >= 0; state--) {
                if (members[state] == 1) {
                    home = state;
                    size++;
                }
            }
            if (size > 0) {
                pieceLength = m;
                wordLength = n;
                lead.setPath(wire, home);
            }
        }

        int wordFor(Wire wire, int state, int v) {
            return (int) toMembers.pick(wire, state, v, wordLength);
        }

        int pieceFor(Wire wire, int state, int word) {
            long v = toMembers.rank(wire, state, word, wordLength);
            return v < 1L << pieceLength ? (int) v : NONE;
        }

        private int pieces(Bits message) {
            return pieceLength < 1 ? 0 : (message.size() + pieceLength - 1) / pieceLength;
        }

        int lengthWritten(Bits message) {
            return lead.size() + pieces(message) * wordLength;
        }

        void encode(Wire wire, Bits message, Bits plate) {
            int state = home;
            plate.copy(lead);
            for (int piece = 0; piece < pieces(message); piece++) {
                int v = message.part(piece * pieceLength, pieceLength);
                int word = wordFor(wire, state, v);
                plate.add(word, wordLength);
                state = wire.follow(state, word, wordLength);
            }
        }

        /** The place of the first FAULT; NONE: the message is told in full. */
        int decode(Wire wire, Bits plate, Bits message) {
            int state = home;
            message.keep(0);
            int fault = lead.firstUnlike(plate);
            if (fault != NONE) {
                return fault;
            }
            for (int piece = 0; piece < MOST_PLATE; piece++) {
                int place = lead.size() + piece * wordLength;
                if (place >= plate.size()) {
                    return NONE;
                }
                if (place + wordLength > plate.size()) {
                    return place;
                }
                int word = plate.part(place, wordLength);
                int v = pieceFor(wire, state, word);
                if (v == NONE) {
                    return place;
                }
                message.add(v, pieceLength);
                state = wire.follow(state, word, wordLength);
            }
            return NONE;
        }
    }

    /** A row of up to 600 bits that grows and shrinks at its end. */
    private static final class Bits {
        private final int[] bits = new int[MOST_PLATE];
        private int size = 0;

        int size() {
            return size;
        }

        int at(int i) {
            return i >= 0 && i < size ? bits[i] : BAD;
        }

        void add(long row, int n) {
            for (int i = n - 1; i >= 0 && size < MOST_PLATE; i--) {
                bits[size] = (int) (row >> i) & 1;
                size++;
            }
        }

        int keep(int n) {
            int were = size;
            size = Math.max(0, Math.min(size, n));
            return were - size;
        }

        int flip(int i) {
            int was = at(i);
            if (was != BAD) {
                bits[i] = 1 - was;
            }
            return was;
        }

        void copy(Bits other) {
            System.arraycopy(other.bits, 0, bits, 0, other.size);
            size = other.size;
        }

        /** The first ROW of a STATE, which is known from its end. */
        void setPath(Wire wire, int state) {
            int at = state;
            size = Math.min(wire.depthOf(state), MOST_PLATE);
            for (int i = size - 1; i >= 0; i--) {
                bits[i] = wire.lastBitOf(at);
                at = wire.parentOf(at);
            }
        }

        /** n bits from a place on, as a number; bits behind the end are 0. */
        int part(int from, int n) {
            int row = 0;
            for (int i = from; i < from + n; i++) {
                row = 2 * row + (at(i) == 1 ? 1 : 0);
            }
            return row;
        }

        /** The place of the first bit of this that the other one has not; NONE. */
        int firstUnlike(Bits other) {
            for (int i = 0; i < size; i++) {
                if (other.at(i) != bits[i]) {
                    return i;
                }
            }
            return NONE;
        }

        int leastLean() {
            int lean = 0;
            int least = 0;
            for (int i = 0; i < size; i++) {
                lean += 2 * bits[i] - 1;
                least = Math.min(least, lean);
            }
            return least;
        }

        int greatestLean() {
            int lean = 0;
            int greatest = 0;
            for (int i = 0; i < size; i++) {
                lean += 2 * bits[i] - 1;
                greatest = Math.max(greatest, lean);
            }
            return greatest;
        }

        int leanSquares() {
            int lean = 0;
            int squares = 0;
            for (int i = 0; i < size; i++) {
                lean += 2 * bits[i] - 1;
                squares += lean * lean;
            }
            return squares;
        }

        int longestRun() {
            int run = 0;
            int longest = 0;
            for (int i = 0; i < size; i++) {
                run = i > 0 && bits[i] == bits[i - 1] ? run + 1 : 1;
                longest = Math.max(longest, run);
            }
            return longest;
        }

        int turns() {
            int turns = 0;
            for (int i = 1; i < size; i++) {
                if (bits[i] != bits[i - 1]) {
                    turns++;
                }
            }
            return turns;
        }

        long digestBehind(long ahead) {
            long h = ahead;
            for (int i = 0; i < size; i++) {
                h = 31 * h + bits[i];
            }
            return h;
        }
    }
}
