import java.math.BigInteger;

/** Objects whose BANS are told in one line, and rows told as texts of '0' and '1'. */
final class Wires {
    static final int LEAST = Integer.MIN_VALUE;
    static final int MOST = Integer.MAX_VALUE;

    private Wires() {
    }

    /** RUNS d, k, LEAN, and the WORDS as texts; nothing is built. */
    static EvenWire told(int d, int k, int lean, String... words) {
        EvenWire x = new EvenWire();
        x.runs(d, k);
        x.lean(lean);
        for (String word : words) {
            x.word((int) bits(word), word.length());
        }
        return x;
    }

    static EvenWire built(int d, int k, int lean, String... words) {
        EvenWire x = told(d, k, lean, words);
        x.build();
        return x;
    }

    /** The same BANS in the document's second writing. */
    static SlowWire slow(int d, int k, int lean, String... words) {
        SlowWire s = new SlowWire();
        s.d = d;
        s.k = k;
        s.lean = lean;
        s.words.addAll(java.util.List.of(words));
        s.build();
        return s;
    }

    /** No BANS: one STATE. */
    static EvenWire free() {
        return built(0, -1, -1);
    }

    /** 0s between 1s, 3 at most: STATES "", 0, 1, 00, 000. */
    static EvenWire spaced() {
        return built(1, 3, -1);
    }

    /** LEAN -l to l: STATES "", 0, 1, 00, 11 .. with LEANS 0, -1, 1, -2, 2 .. */
    static EvenWire leaning(int l) {
        return built(0, -1, l);
    }

    /** Built, and no ROW is GOOD. */
    static EvenWire dumb() {
        return leaning(0);
    }

    static long bits(String row) {
        return row.isEmpty() ? 0 : Long.parseLong(row, 2);
    }

    static String zeros(int n) {
        return "0".repeat(n);
    }

    static String ones(int n) {
        return "1".repeat(n);
    }

    /** Where a row told as a text leads from the empty ROW. */
    static int lead(EvenWire x, String row) {
        return x.walk(0, bits(row), row.length());
    }

    static boolean isGood(EvenWire x, String row) {
        return lead(x, row) >= 0;
    }

    static String plate(EvenWire x) {
        StringBuilder s = new StringBuilder();
        int size = x.count(1);
        for (int i = 0; i < size; i++) {
            s.append(x.plate(i));
        }
        return s.toString();
    }

    static String message(EvenWire x) {
        StringBuilder s = new StringBuilder();
        int size = x.count(0);
        for (int i = 0; i < size; i++) {
            s.append(x.message(i));
        }
        return s.toString();
    }

    static void putAll(EvenWire x, String row) {
        for (int i = 0; i < row.length(); i += 60) {
            String part = row.substring(i, Math.min(row.length(), i + 60));
            x.put(bits(part), part.length());
        }
    }

    static void sayAll(EvenWire x, String row) {
        for (int i = 0; i < row.length(); i += 60) {
            String part = row.substring(i, Math.min(row.length(), i + 60));
            x.say(bits(part), part.length());
        }
    }

    /** Numbers that are no row of n bits. */
    static long[] noRowsOf(int n) {
        return new long[] {1L << n, (1L << n) + 1, -1, -(1L << n), Long.MIN_VALUE, Long.MAX_VALUE};
    }

    /** h of promise 38 over what is told, in whole numbers without a bound, and cut to a long at the end alone. */
    static long digestOf(long... all) {
        BigInteger h = BigInteger.valueOf(17);
        for (long one : all) {
            h = h.multiply(BigInteger.valueOf(31)).add(BigInteger.valueOf(one));
        }
        return h.longValue();
    }
}
