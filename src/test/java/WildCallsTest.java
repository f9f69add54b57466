import java.util.Random;

/** Calls with any arguments in any order: none throws, and none answers below what the document tells. */
public final class WildCallsTest {
    private static final int[] EDGES = {Integer.MIN_VALUE, -101, -5, -4, -3, -2, -1, 0, 1, 2, 5, 6, 7, 8, 12, 13, 31, 32, 33, 40, 59, 60,
        61, 62, 63, 64, 65, 99, 100, 101, 199, 200, 201, 239, 240, 241, 255, 256, 599, 600, 601, 1000000, 1000001, Integer.MAX_VALUE};

    private final Random random;
    private final EvenWire x = new EvenWire();

    private WildCallsTest(long seed) {
        random = new Random(seed);
    }

    public static void main(String[] args) {
        for (long seed = 1; seed <= 300; seed++) {
            WildCallsTest test = new WildCallsTest(seed);
            for (int call = 0; call < 700; call++) {
                int what = test.random.nextInt(37);
                Due.part("seed " + seed + ", call " + call + ", method " + what);
                test.oneCall(what);
            }
        }
        Due.end();
    }

    private int wild() {
        switch (random.nextInt(4)) {
            case 0:
                return EDGES[random.nextInt(EDGES.length)];
            case 1:
                return random.nextInt();
            default:
                return random.nextInt(7);
        }
    }

    private long wildLong() {
        switch (random.nextInt(4)) {
            case 0:
                return random.nextLong();
            case 1:
                return 1L << random.nextInt(64);
            case 2:
                return (1L << random.nextInt(64)) - 1;
            default:
                return wild();
        }
    }

    private void oneCall(int what) {
        try {
            long answer = what < 18 ? bansAndWire(what) : what < 25 ? weightsAndCodes(what) : plates(what);
            boolean isLean = what == 35;
            boolean isFault = what == 29 && answer <= -100;
            boolean isDigest = what == 36;
            Due.holds("an answer of " + answer, answer >= -4 || isLean || isFault || isDigest);
        } catch (RuntimeException e) {
            Due.holds("no " + e, false);
        }
    }

    private long bansAndWire(int what) {
        switch (what) {
            case 0:
                return x.runs(random.nextInt(9) - 1, wild());
            case 1:
                return x.word(wild(), wild());
            case 2:
                return x.clearWords();
            case 3:
                return x.lean(wild());
            case 4:
                return x.ban(wild());
            case 5:
            case 6:
                return random.nextInt(4) == 0 ? x.build() : x.states();
            case 7:
                return x.go(wild(), wild());
            case 8:
            case 9:
                return x.walk(wild(), wildLong(), wild());
            case 10:
                return x.first(wild(), wild());
            case 11:
                return x.count(wild(), wild());
            case 12:
            case 13:
                return x.number(wild(), wildLong(), wild());
            case 14:
                return x.row(wild(), wildLong(), wild());
            case 15:
                return x.ways(wild(), wild(), wild());
            case 16:
                return x.mark(wild());
            default:
                return x.marked();
        }
    }

    private long weightsAndCodes(int what) {
        switch (what) {
            case 18:
                return x.weigh(wild(), wild());
            case 19:
                return x.weight(wild());
            case 20:
                return x.judge(wild(), wild());
            case 21:
                return x.best(wild(), wild(), wild());
            case 22:
                return x.code(wild(), wild());
            case 23:
                return x.member(wild());
            default:
                return random.nextBoolean() ? x.wordOf(wild(), wild()) : x.read(wild(), wild());
        }
    }

    private long plates(int what) {
        switch (what) {
            case 25:
            case 26:
                return x.say(wildLong(), wild());
            case 27:
                return random.nextInt(4) == 0 ? x.hush() : x.message(wild());
            case 28:
                return x.write();
            case 29:
                return x.tell();
            case 30:
                return x.put(wildLong(), wild());
            case 31:
                return x.cut(wild());
            case 32:
                return x.spoil(wild());
            case 33:
                return x.plate(wild());
            case 34:
                return random.nextBoolean() ? x.check() : x.count(wild());
            case 35:
                return x.shape(wild());
            default:
                return x.digest();
        }
    }
}
