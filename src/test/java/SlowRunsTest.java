import java.util.Random;

/** Runs of calls, made from fixed seeds, held against SlowWire; every public method is called in them. */
public final class SlowRunsTest {
    private final Random random;
    private final EvenWire x = new EvenWire();
    private final SlowWire s = new SlowWire();
    private final int size;
    private int calls = 0;

    private SlowRunsTest(long seed) {
        random = new Random(seed);
        size = random.nextInt(4);
        Due.part("seed " + seed);
    }

    public static void main(String[] args) {
        for (long seed = 1; seed <= 400; seed++) {
            new SlowRunsTest(seed).run(seed % 10 == 0 ? 505 : 60 + (int) (seed % 90));
        }
        Due.end();
    }

    private void run(int length) {
        tellBans();
        buildBoth();
        while (calls < length && Due.wrong() == 0) {
            step(random.nextInt(100));
            if (random.nextInt(12) == 0) {
                due("digest()", x.digest(), s.digest());
            }
        }
        due("digest()", x.digest(), s.digest());
    }

    private void due(String call, long got, long due) {
        calls++;
        Due.is("call " + calls + ", " + call, got, due);
    }

    private int pick(int least, int most) {
        return least + random.nextInt(most - least + 1);
    }

    /** Mostly within the bounds, now and then just or far outside. */
    private int near(int least, int most) {
        switch (random.nextInt(40)) {
            case 0:
                return least - 1;
            case 1:
                return most + 1;
            case 2:
                return random.nextInt();
            default:
                return most < least ? most : pick(least, most);
        }
    }

    private int state() {
        return near(0, s.states() - 1);
    }

    private int member() {
        if (s.members.isEmpty() || random.nextInt(6) == 0) {
            return state();
        }
        Integer some = s.members.floor(pick(0, s.states() - 1));
        return some == null ? s.members.first() : some;
    }

    private long bits(int n) {
        if (n < 0 || n > 60 || random.nextInt(30) == 0) {
            return random.nextInt(3) == 0 ? random.nextLong() : n >= 0 && n < 62 ? 1L << n : -1;
        }
        return n == 0 ? 0 : random.nextLong() >>> (64 - n);
    }

    /** A row that leads somewhere, if any does, with at times one bit changed. */
    private long goodBits(int state, int n) {
        if (!s.has(state) || n < 0 || n > 60 || s.countFrom(state, n) == 0 || random.nextInt(5) == 0) {
            return bits(n);
        }
        long row = s.rowOf(state, Math.floorMod(random.nextLong(), s.countFrom(state, n)), n);
        return n > 0 && random.nextInt(6) == 0 ? row ^ 1L << random.nextInt(n) : row;
    }

    private void tellBans() {
        tellRuns();
        tellLean();
        for (int words = random.nextInt(4); words > 0; words--) {
            tellWord();
        }
    }

    private void tellRuns() {
        int k = random.nextInt(3) == 0 ? -1 : near(0, 7);
        int d = k < 0 ? near(0, 0) : near(0, k);
        boolean fits = d == 0 && k == -1 || k >= 0 && k <= 7 && d >= 0 && d <= k;
        if (fits) {
            s.d = d;
            s.k = k;
        }
        due("runs(" + d + ", " + k + ")", x.runs(d, k), fits ? 1 : -2);
    }

    private void tellLean() {
        int l = size == 0 ? near(-1, 2) : near(-1, 5);
        boolean fits = l >= -1 && l <= 5;
        if (fits) {
            s.lean = l;
        }
        due("lean(" + l + ")", x.lean(l), fits ? 1 : -2);
    }

    private void tellWord() {
        int n = random.nextInt(3) == 0 ? near(1, 6) : pick(3, 6);
        int bits = (int) bits(n);
        long due = -2;
        if (n >= 1 && n <= 6 && bits >= 0 && bits < 1 << n) {
            due = s.words.size() == 4 ? -4 : s.words.size() + 1;
            if (due > 0) {
                s.words.add(SlowWire.text(bits, n));
            }
        }
        due("word(" + bits + ", " + n + ")", x.word(bits, n), due);
    }

    private void clearWords() {
        int were = s.words.size();
        s.words.clear();
        due("clearWords()", x.clearWords(), were);
    }

    private void buildBoth() {
        due("build()", x.build(), s.build());
        due("states()", x.states(), s.states());
    }

    private void step(int what) {
        if (what < 6) {
            changeBans();
        } else if (what < 46) {
            askWire();
        } else if (what < 58) {
            askWeights();
        } else if (what < 74) {
            askCode();
        } else {
            usePlate();
        }
    }

    private void changeBans() {
        switch (random.nextInt(7)) {
            case 0:
                tellRuns();
                break;
            case 1:
                tellLean();
                break;
            case 2:
                clearWords();
                break;
            case 3:
                tellWord();
                break;
            case 4:
                clearWords();
                tellBans();
                buildBoth();
                break;
            default:
                buildBoth();
        }
    }

    private void askWire() {
        int state = state();
        int n = random.nextBoolean() ? near(0, 60) : near(0, 9);
        switch (random.nextInt(9)) {
            case 0:
                int bit = near(0, 1);
                due("go(" + state + ", " + bit + ")", x.go(state, bit),
                    !s.has(state) || bit < 0 || bit > 1 ? -2 : s.goes.get(state)[bit]);
                break;
            case 1:
                askRow("walk", state, goodBits(state, n), n);
                break;
            case 2:
                int what = near(0, 1);
                due("first(" + state + ", " + what + ")", x.first(state, what), first(state, what));
                break;
            case 3:
                due("count(" + state + ", " + n + ")", x.count(state, n),
                    !s.has(state) || n < 0 || n > 60 ? -2 : s.countFrom(state, n));
                break;
            case 4:
                askRow("number", state, goodBits(state, n), n);
                break;
            case 5:
                askRowOf(state, n);
                break;
            case 6:
                askWays(state, state(), near(0, size == 3 ? 12 : 6));
                break;
            case 7:
                int most = near(1, 12);
                due("mark(" + most + ")", x.mark(most), s.mark(most));
                due("marked()", x.marked(), s.marked);
                break;
            default:
                int told = random.nextInt(30) - 2;
                due("ban(" + told + ")", x.ban(told), s.ban(told));
        }
    }

    private long first(int state, int what) {
        if (!s.has(state) || what < 0 || what > 1) {
            return -2;
        }
        String row = s.firsts.get(state);
        return what == 0 ? row.length() : row.isEmpty() ? 0 : row.length() > 60 ? -1 : Long.parseLong(row, 2);
    }

    private void askRow(String call, int state, long row, int n) {
        boolean fits = s.has(state) && SlowWire.isRow(row, n, 0, 60);
        String told = call + "(" + state + ", " + row + ", " + n + ")";
        if (call.equals("walk")) {
            due(told, x.walk(state, row, n), fits ? s.lead(state, SlowWire.text(row, n)) : -2);
        } else {
            due(told, x.number(state, row, n), fits ? s.numberOf(state, SlowWire.text(row, n)) : -2);
        }
    }

    private void askRowOf(int state, int n) {
        boolean fits = s.has(state) && n >= 0 && n <= 60;
        long all = fits ? s.countFrom(state, n) : 5;
        long number = random.nextInt(5) == 0 ? all + random.nextInt(2) : Math.floorMod(random.nextLong(), all + 1) - random.nextInt(2);
        due("row(" + state + ", " + number + ", " + n + ")", x.row(state, number, n),
            fits && number >= 0 ? s.rowOf(state, number, n) : -2);
    }

    private void askWays(int i, int j, int n) {
        boolean fits = s.has(i) && s.has(j) && n >= 0 && n <= 12;
        due("ways(" + i + ", " + j + ", " + n + ")", x.ways(i, j, n), fits ? s.waysOf(n)[i][j] : -2);
    }

    private void askWeights() {
        int state = state();
        int n = near(1, size == 3 ? 12 : 6);
        int m = random.nextInt(4) == 0 ? near(0, 12) : near(0, n);
        switch (random.nextInt(5)) {
            case 0:
                int v = random.nextBoolean() ? near(0, 1000000) : near(0, 9);
                long due = !s.has(state) || v < 0 || v > 1000000 ? -2 : s.weights[state];
                if (due != -2) {
                    s.weights[state] = v;
                }
                due("weigh(" + state + ", " + v + ")", x.weigh(state, v), due);
                break;
            case 1:
                due("weight(" + state + ")", x.weight(state), s.has(state) ? s.weights[state] : -2);
                break;
            case 2:
            case 3:
                due("judge(" + m + ", " + n + ")", x.judge(m, n), s.judge(m, n));
                break;
            default:
                int most = random.nextInt(3) > 0 ? near(1, 12) : near(1, 200);
                due("best(" + m + ", " + n + ", " + most + ")", x.best(m, n, most), s.best(m, n, most));
        }
    }

    private void askCode() {
        switch (random.nextInt(5)) {
            case 0:
            case 1:
                int n = near(1, size == 3 ? 12 : 6);
                int m = near(1, Math.max(1, Math.min(8, n - random.nextInt(3))));
                due("code(" + m + ", " + n + ")", x.code(m, n), s.code(m, n));
                break;
            case 2:
                int state = state();
                int due = !s.has(state) ? -2 : s.members.isEmpty() ? -3 : s.members.contains(state) ? 1 : 0;
                due("member(" + state + ")", x.member(state), due);
                break;
            case 3:
                int home = member();
                int v = near(0, (1 << s.m) - 1);
                due("wordOf(" + home + ", " + v + ")", x.wordOf(home, v), s.wordOf(home, v));
                break;
            default:
                int at = member();
                int word = random.nextInt(8) == 0 ? near(0, (1 << s.n) - 1) : (int) goodBits(at, s.n);
                due("read(" + at + ", " + word + ")", x.read(at, word), s.read(at, word));
        }
    }

    private void usePlate() {
        int n = near(0, random.nextInt(4) == 0 ? 60 : 9);
        switch (random.nextInt(14)) {
            case 0:
            case 1:
                long said = bits(n);
                due("say(" + said + ", " + n + ")", x.say(said, n), s.say(said, n));
                break;
            case 2:
                int had = s.message.length();
                s.message.setLength(0);
                due("hush()", x.hush(), had);
                break;
            case 3:
                int i = near(0, s.message.length() - 1);
                boolean there = i >= 0 && i < s.message.length();
                due("message(" + i + ")", x.message(i), there ? s.message.charAt(i) - '0' : -2);
                break;
            case 4:
            case 5:
                due("write()", x.write(), s.write());
                break;
            case 6:
            case 7:
                due("tell()", x.tell(), s.tell());
                break;
            case 8:
                long more = bits(n);
                due("put(" + more + ", " + n + ")", x.put(more, n), s.put(more, n));
                break;
            case 9:
                cutBoth(random.nextInt(3) > 0 ? Math.max(0, s.plate.length() - random.nextInt(7)) : near(0, s.plate.length()));
                break;
            case 10:
                changePlate();
                break;
            case 11:
                due("check()", x.check(), s.check());
                break;
            default:
                int what = near(0, 4);
                due("shape(" + what + ")", x.shape(what), s.shape(what));
                what = near(0, 7);
                due("count(" + what + ")", x.count(what), s.count(what));
        }
    }

    private void cutBoth(int n) {
        int due = n < 0 || n > s.plate.length() ? -2 : s.plate.length() - n;
        if (due >= 0) {
            s.plate.setLength(n);
        }
        due("cut(" + n + ")", x.cut(n), due);
    }

    private void changePlate() {
        int i = near(0, s.plate.length() - 1);
        int due = i < 0 || i >= s.plate.length() ? -2 : s.plate.charAt(i) - '0';
        due("plate(" + i + ")", x.plate(i), due);
        if (due >= 0) {
            s.plate.setCharAt(i, due == 1 ? '0' : '1');
        }
        due("spoil(" + i + ")", x.spoil(i), due);
    }
}
