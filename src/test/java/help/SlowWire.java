import java.util.ArrayList;
import java.util.Arrays;
import java.util.HashMap;
import java.util.List;
import java.util.Map;
import java.util.TreeSet;

/**
 * The document once more, written from its words with texts, lists and plain
 * enumeration, so that runs of calls can be held against it. A ROW is a text of '0' and '1'.
 */
final class SlowWire {
    static final int NONE = -1, BAD = -2, NOT = -3, FULL = -4;

    int d = 0, k = -1, lean = -1, builds = 0;
    final List<String> words = new ArrayList<>();

    /** THE WIRE: the first ROW of each STATE, and where it goes. */
    List<String> firsts = new ArrayList<>();
    List<int[]> goes = new ArrayList<>();
    int[] weights = new int[0];
    int marked = 0;
    TreeSet<Integer> members = new TreeSet<>();
    int m = 0, n = 0;
    final StringBuilder message = new StringBuilder();
    StringBuilder plate = new StringBuilder();
    private Map<String, Long> counted = new HashMap<>();
    private Map<Integer, long[][]> waysOf = new HashMap<>();

    static String text(long row, int n) {
        StringBuilder s = new StringBuilder();
        for (int i = 0; i < n; i++) {
            s.append((row >> (n - 1 - i)) % 2 == 1 ? '1' : '0');
        }
        return s.toString();
    }

    static boolean isRow(long row, int n, int least, int most) {
        return n >= least && n <= most && row >= 0 && (n == 62 || row < (1L << n));
    }

    static int leanOf(String row) {
        int sum = 0;
        for (char c : row.toCharArray()) {
            sum += c == '1' ? 1 : -1;
        }
        return sum;
    }

    boolean keepsRuns(String row) {
        if (k < 0) {
            return true;
        }
        String[] zeros = row.split("1", -1);
        for (int i = 0; i < zeros.length; i++) {
            boolean between = i > 0 && i < zeros.length - 1;
            if (zeros[i].length() > k || between && zeros[i].length() < d) {
                return false;
            }
        }
        return true;
    }

    boolean keepsBans(String row) {
        for (String word : words) {
            if (row.contains(word)) {
                return false;
            }
        }
        for (int i = 0; lean >= 0 && i <= row.length(); i++) {
            if (Math.abs(leanOf(row.substring(0, i))) > lean) {
                return false;
            }
        }
        return keepsRuns(row);
    }

    /** Of two ROWS with one key, the same rows behind keep the BANS: no ban looks back further than 8 bits. */
    String key(String row) {
        return row.substring(Math.max(0, row.length() - 8)) + "/" + (lean < 0 ? 0 : leanOf(row));
    }

    /** The ROWS that keep the BANS, one (the first) of each key, in their order; null where none follows. */
    private Map<String, String[]> keysReached(List<String> order) {
        Map<String, String[]> after = new HashMap<>();
        List<String> rows = new ArrayList<>();
        rows.add("");
        after.put(key(""), new String[2]);
        order.add(key(""));
        for (int i = 0; i < rows.size(); i++) {
            String row = rows.get(i);
            for (int bit = 0; bit < 2; bit++) {
                String longer = row + bit;
                if (!keepsBans(longer)) {
                    continue;
                }
                after.get(key(row))[bit] = key(longer);
                if (!after.containsKey(key(longer))) {
                    after.put(key(longer), new String[2]);
                    order.add(key(longer));
                    rows.add(longer);
                }
            }
        }
        return after;
    }

    int build() {
        if (builds >= 40) {
            return FULL;
        }
        builds++;
        List<String> order = new ArrayList<>();
        Map<String, String[]> after = keysReached(order);
        dropDeadEnds(after);
        Map<String, Integer> group = new HashMap<>();
        for (String key : order) {
            if (after.containsKey(key)) {
                group.put(key, 0);
            }
        }
        int groups = group.isEmpty() ? 0 : 1;
        while (true) {
            Map<String, Integer> names = new HashMap<>();
            Map<String, Integer> finer = new HashMap<>();
            for (String key : order) {
                if (after.containsKey(key)) {
                    String[] to = after.get(key);
                    String sign = group.get(key) + "," + group.get(to[0]) + "," + group.get(to[1]);
                    names.putIfAbsent(sign, names.size());
                    finer.put(key, names.get(sign));
                }
            }
            group = finer;
            if (names.size() == groups) {
                break;
            }
            groups = names.size();
        }
        if (!after.containsKey(key(""))) {
            groups = 0;
        }
        if (groups > 100) {
            return FULL;
        }
        setUp(groups, order, after, group);
        return groups;
    }

    private void dropDeadEnds(Map<String, String[]> after) {
        boolean changed = true;
        while (changed) {
            changed = after.values().removeIf(to -> to[0] == null && to[1] == null);
            for (String[] to : after.values()) {
                for (int bit = 0; bit < 2; bit++) {
                    if (to[bit] != null && !after.containsKey(to[bit])) {
                        to[bit] = null;
                        changed = true;
                    }
                }
            }
        }
    }

    private void setUp(int groups, List<String> order, Map<String, String[]> after, Map<String, Integer> group) {
        goes = new ArrayList<>();
        firsts = new ArrayList<>();
        for (int s = 0; s < groups; s++) {
            goes.add(new int[] {NONE, NONE});
            firsts.add(null);
        }
        for (String key : order) {
            if (groups > 0 && after.containsKey(key)) {
                for (int bit = 0; bit < 2; bit++) {
                    String to = after.get(key)[bit];
                    goes.get(group.get(key))[bit] = to == null ? NONE : group.get(to);
                }
            }
        }
        weights = new int[groups];
        marked = 0;
        dropCode();
        counted = new HashMap<>();
        waysOf = new HashMap<>();
        findFirsts(groups);
    }

    /** By ROWS in their order, the empty one ahead, until each STATE has one. */
    private void findFirsts(int groups) {
        List<String> rows = new ArrayList<>();
        List<Integer> ends = new ArrayList<>();
        if (groups > 0) {
            rows.add("");
            ends.add(0);
            firsts.set(0, "");
        }
        for (int i = 0; i < rows.size(); i++) {
            for (int bit = 0; bit < 2; bit++) {
                int to = goes.get(ends.get(i))[bit];
                if (to != NONE && firsts.get(to) == null) {
                    firsts.set(to, rows.get(i) + bit);
                    rows.add(rows.get(i) + bit);
                    ends.add(to);
                }
            }
        }
    }

    private void dropCode() {
        members = new TreeSet<>();
        m = 0;
        n = 0;
    }

    int states() {
        return goes.size();
    }

    boolean has(int state) {
        return state >= 0 && state < goes.size();
    }

    int lead(int state, String row) {
        int at = state;
        for (char c : row.toCharArray()) {
            if (at == NONE) {
                return NONE;
            }
            at = goes.get(at)[c - '0'];
        }
        return at;
    }

    long countFrom(int state, int bits) {
        if (state == NONE) {
            return 0;
        }
        if (bits == 0) {
            return 1;
        }
        String key = state + ":" + bits;
        Long known = counted.get(key);
        if (known == null) {
            known = countFrom(goes.get(state)[0], bits - 1) + countFrom(goes.get(state)[1], bits - 1);
            counted.put(key, known);
        }
        return known;
    }

    long numberOf(int state, String row) {
        if (lead(state, row) == NONE) {
            return NONE;
        }
        long less = 0;
        for (int i = 0; i < row.length(); i++) {
            if (row.charAt(i) == '1') {
                less += countFrom(lead(state, row.substring(0, i) + "0"), row.length() - i - 1);
            }
        }
        return less;
    }

    /** Found by halving: the greatest row of which so many at the most are less, that leads somewhere. */
    long rowOf(int state, long number, int bits) {
        if (number >= countFrom(state, bits)) {
            return NONE;
        }
        String row = "";
        long left = number;
        while (row.length() < bits) {
            long zeros = countFrom(lead(state, row + "0"), bits - row.length() - 1);
            if (left < zeros) {
                row += "0";
            } else {
                left -= zeros;
                row += "1";
            }
        }
        return bits == 0 ? 0 : Long.parseLong(row, 2);
    }

    /** Each row of n bits is walked. */
    long[][] waysOf(int bits) {
        long[][] ways = waysOf.get(bits);
        if (ways == null) {
            ways = new long[states()][states()];
            for (int i = 0; i < states(); i++) {
                walkAll(i, i, bits, ways[i]);
            }
            waysOf.put(bits, ways);
        }
        return ways;
    }

    private void walkAll(int from, int at, int left, long[] ends) {
        if (at == NONE) {
            return;
        }
        if (left == 0) {
            ends[at]++;
            return;
        }
        walkAll(from, goes.get(at)[0], left - 1, ends);
        walkAll(from, goes.get(at)[1], left - 1, ends);
    }

    int mark(int most) {
        if (most < 1 || most > 12) {
            return BAD;
        }
        if (states() == 0) {
            return NOT;
        }
        for (int length = 1; length <= most; length++) {
            for (int word = 0; word < 1 << length; word++) {
                boolean there = false;
                for (int s = 0; s < states() && !there; s++) {
                    there = lead(s, text(word, length)) != NONE;
                }
                if (!there) {
                    marked = word;
                    return length;
                }
            }
        }
        return NONE;
    }

    long shortOf(int state, int pm, int pn) {
        long sum = 0;
        for (int j = 0; j < states(); j++) {
            sum += waysOf(pn)[state][j] * weights[j];
        }
        return ((long) weights[state] << pm) - sum;
    }

    int judge(int pm, int pn) {
        if (pm < 0 || pm > 12 || pn < 1 || pn > 12) {
            return BAD;
        }
        if (states() == 0) {
            return NOT;
        }
        if (Arrays.stream(weights).max().getAsInt() == 0) {
            return 0;
        }
        for (int s = 0; s < states(); s++) {
            if (shortOf(s, pm, pn) > 0) {
                return s;
            }
        }
        return NONE;
    }

    /** Where a WEIGHT is too great, all that show have a lesser one there. */
    int best(int pm, int pn, int most) {
        if (pm < 0 || pm > 12 || pn < 1 || pn > 12 || most < 1 || most > 200) {
            return BAD;
        }
        if (states() == 0) {
            return NOT;
        }
        Arrays.fill(weights, most);
        boolean changed = true;
        while (changed) {
            changed = false;
            for (int s = 0; s < states(); s++) {
                while (weights[s] > 0 && shortOf(s, pm, pn) > 0) {
                    weights[s]--;
                    changed = true;
                }
            }
        }
        return Arrays.stream(weights).sum();
    }

    int code(int pm, int pn) {
        if (pm < 1 || pm > 8 || pn < 1 || pn > 12) {
            return BAD;
        }
        if (states() == 0) {
            return NOT;
        }
        dropCode();
        for (int s = 0; s < states(); s++) {
            members.add(s);
        }
        boolean changed = true;
        while (changed) {
            changed = false;
            for (int s = 0; s < states(); s++) {
                long rows = 0;
                for (int to : members) {
                    rows += waysOf(pn)[s][to];
                }
                if (members.contains(s) && rows < 1L << pm) {
                    members.remove(s);
                    changed = true;
                }
            }
        }
        if (!members.isEmpty()) {
            m = pm;
            n = pn;
        }
        return members.size();
    }

    List<Integer> wordsAt(int member) {
        List<Integer> found = new ArrayList<>();
        for (int row = 0; row < 1 << n && found.size() < 1 << m; row++) {
            if (members.contains(lead(member, text(row, n)))) {
                found.add(row);
            }
        }
        return found;
    }

    int wordOf(int state, int v) {
        if (members.isEmpty()) {
            return NOT;
        }
        return !members.contains(state) || v < 0 || v >= 1 << m ? BAD : wordsAt(state).get(v);
    }

    int read(int state, int word) {
        if (members.isEmpty()) {
            return NOT;
        }
        return !members.contains(state) || word < 0 || word >= 1 << n ? BAD : wordsAt(state).indexOf(word);
    }

    int say(long bits, int size) {
        if (!isRow(bits, size, 0, 60)) {
            return BAD;
        }
        if (message.length() + size > 240) {
            return FULL;
        }
        message.append(text(bits, size));
        return message.length();
    }

    int write() {
        if (members.isEmpty()) {
            return NOT;
        }
        String filled = message.toString();
        while (filled.length() % m != 0) {
            filled += "0";
        }
        String written = firsts.get(members.first());
        if (written.length() + filled.length() / m * n > 600) {
            return FULL;
        }
        for (int i = 0; i < filled.length(); i += m) {
            int v = Integer.parseInt(filled.substring(i, i + m), 2);
            written += text(wordsAt(lead(0, written)).get(v), n);
        }
        plate = new StringBuilder(written);
        return written.length();
    }

    int tell() {
        if (members.isEmpty()) {
            return NOT;
        }
        String lead = firsts.get(members.first());
        String written = plate.toString();
        for (int i = 0; i < lead.length(); i++) {
            if (i == written.length() || written.charAt(i) != lead.charAt(i)) {
                return -100 - i;
            }
        }
        StringBuilder told = new StringBuilder();
        for (int at = lead.length(); at < written.length(); at += n) {
            if (written.length() < at + n) {
                return -100 - at;
            }
            int state = lead(0, written.substring(0, at));
            int v = wordsAt(state).indexOf(Integer.parseInt(written.substring(at, at + n), 2));
            if (v < 0) {
                return -100 - at;
            }
            told.append(text(v, m));
        }
        if (told.length() > 240) {
            return FULL;
        }
        message.setLength(0);
        message.append(told);
        return told.length();
    }

    int put(long bits, int size) {
        if (!isRow(bits, size, 0, 60)) {
            return BAD;
        }
        if (plate.length() + size > 600) {
            return FULL;
        }
        plate.append(text(bits, size));
        return plate.length();
    }

    int check() {
        if (states() == 0) {
            return NOT;
        }
        for (int i = 1; i <= plate.length(); i++) {
            if (lead(0, plate.substring(0, i)) == NONE) {
                return i - 1;
            }
        }
        return NONE;
    }

    int shape(int what) {
        int least = 0, greatest = 0, squares = 0, unlike = 0, longest = 0;
        for (int i = 0; i <= plate.length(); i++) {
            int leaning = leanOf(plate.substring(0, i));
            least = Math.min(least, leaning);
            greatest = Math.max(greatest, leaning);
            squares += leaning * leaning;
            unlike += i > 0 && i < plate.length() && plate.charAt(i) != plate.charAt(i - 1) ? 1 : 0;
        }
        for (String like : plate.toString().replace("01", "0 1").replace("10", "1 0").split(" ")) {
            longest = Math.max(longest, like.length());
        }
        int[] all = {least, greatest, squares, longest, unlike};
        return what < 0 || what > 4 ? BAD : all[what];
    }

    int count(int what) {
        int home = members.isEmpty() ? NONE : members.first();
        int[] all = {message.length(), plate.length(), states(), members.size(), m, n, home, builds};
        return what < 0 || what > 7 ? BAD : all[what];
    }

    int ban(int what) {
        int[] all = {d, k, words.size(), lean};
        if (what >= 0 && what < 4) {
            return all[what];
        }
        if (what >= 10 && what < 10 + words.size()) {
            return Integer.parseInt(words.get(what - 10), 2);
        }
        return what >= 20 && what < 20 + words.size() ? words.get(what - 20).length() : BAD;
    }

    long digest() {
        List<Long> all = new ArrayList<>();
        for (int what = 0; what < 8; what++) {
            all.add((long) count(what));
        }
        for (int s = 0; s < states(); s++) {
            all.add((long) goes.get(s)[0]);
            all.add((long) goes.get(s)[1]);
            all.add((long) weights[s]);
        }
        for (char c : (message.toString() + plate).toCharArray()) {
            all.add((long) (c - '0'));
        }
        long h = 17;
        for (long x : all) {
            h = 31 * h + x;
        }
        return h;
    }
}
