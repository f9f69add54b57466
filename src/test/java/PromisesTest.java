/** Each promise by its number: ordinary inputs, the edges that the document names, wrong inputs. */
public final class PromisesTest {
    private static final int LEAST = Integer.MIN_VALUE;
    private static final int MOST = Integer.MAX_VALUE;

    private PromisesTest() {
    }

    public static void main(String[] args) {
        newObject();
        runs();
        word();
        clearWords();
        lean();
        ban();
        build();
        buildFull();
        states();
        go();
        walk();
        first();
        count();
        number();
        row();
        ways();
        mark();
        marked();
        weigh();
        weight();
        judge();
        best();
        code();
        member();
        wordOf();
        read();
        say();
        hush();
        message();
        write();
        tell();
        tellFaults();
        put();
        cut();
        spoil();
        plate();
        check();
        shape();
        countOf();
        digest();
        Due.end();
    }

    /** No 1s side by side, 3 zeros between them at most: STATES "", 0, 1, 00, 000. */
    private static EvenWire spaced() {
        EvenWire x = new EvenWire();
        x.runs(1, 3);
        x.build();
        return x;
    }

    /** LEAN -2 to 2: STATES "", 0, 1, 00, 11, with LEANS 0, -1, 1, -2, 2. */
    private static EvenWire even() {
        EvenWire x = new EvenWire();
        x.lean(2);
        x.build();
        return x;
    }

    /** No BANS at all: one STATE. */
    private static EvenWire free() {
        EvenWire x = new EvenWire();
        x.build();
        return x;
    }

    /** 40 STATES; by 6 bits from none of the even LEANS enough lead on, so a CODE of 2 by 6 begins at 1. */
    private static EvenWire leadByOne() {
        EvenWire x = new EvenWire();
        x.runs(0, 6);
        x.lean(4);
        x.word(15, 5);
        x.word(6, 4);
        x.word(2, 3);
        x.build();
        return x;
    }

    private static EvenWire hundred() {
        EvenWire x = new EvenWire();
        x.runs(0, 2);
        x.lean(5);
        x.word(11, 6);
        x.word(9, 6);
        x.word(18, 6);
        x.word(7, 5);
        x.build();
        return x;
    }

    /** No ROW is GOOD. */
    private static EvenWire dumb() {
        EvenWire x = new EvenWire();
        x.lean(0);
        x.build();
        return x;
    }

    private static EvenWire tooMany() {
        EvenWire x = new EvenWire();
        tellTooMany(x);
        return x;
    }

    private static void tellTooMany(EvenWire x) {
        x.lean(5);
        x.runs(0, 7);
        x.clearWords();
        x.word(63, 6);
        x.word(32, 6);
        x.word(21, 6);
        x.word(42, 6);
    }

    private static void newObject() {
        Due.part("promise 1");
        EvenWire x = new EvenWire();
        Due.is("ban(0)", x.ban(0), 0);
        Due.is("ban(1)", x.ban(1), -1);
        Due.is("ban(2)", x.ban(2), 0);
        Due.is("ban(3)", x.ban(3), -1);
        for (int what = 0; what <= 5; what++) {
            Due.is("count(" + what + ")", x.count(what), 0);
        }
        Due.is("count(6)", x.count(6), -1);
        Due.is("count(7)", x.count(7), 0);
        Due.is("member(0)", x.member(0), -2);
        Due.is("wordOf(0, 0)", x.wordOf(0, 0), -3);
        Due.is("write()", x.write(), -3);
        Due.is("check()", x.check(), -3);
        Due.is("marked()", x.marked(), 0);
    }

    private static void runs() {
        Due.part("promise 2");
        EvenWire x = new EvenWire();
        Due.is("runs(2, 7)", x.runs(2, 7), 1);
        int[][] wrong = {{-1, 3}, {4, 3}, {0, 8}, {1, -1}, {-1, -1}, {0, -2}, {LEAST, MOST}, {MOST, MOST}, {0, LEAST}};
        for (int[] pair : wrong) {
            Due.is("runs(" + pair[0] + ", " + pair[1] + ")", x.runs(pair[0], pair[1]), -2);
        }
        Due.is("d stays", x.ban(0), 2);
        Due.is("k stays", x.ban(1), 7);
        Due.is("STATES with 0s between, ahead and behind", x.build(), 10);
        Due.is("7 zeros ahead", x.walk(0, 1, 8), 2);
        Due.is("8 zeros ahead", x.walk(0, 0, 8), -1);
        Due.is("1 zero between", x.walk(0, 5, 3), -1);
        Due.is("2 zeros between", x.walk(0, 9, 4), 2);
        Due.is("7 zeros between", x.walk(0, 257, 9), 2);
        Due.is("7 zeros behind", x.walk(0, 128, 8) >= 0 ? 1 : 0, 1);
        Due.is("8 zeros behind", x.walk(0, 256, 9), -1);
        Due.is("runs(0, 0)", x.runs(0, 0), 1);
        Due.is("1s alone", x.build(), 1);
        Due.is("go(0, 0)", x.go(0, 0), -1);
        Due.is("runs(7, 7)", x.runs(7, 7), 1);
        // behind a 1 the wire goes round in 8 bits, ahead of it 0 to 7 zeros stand: "", 0, 00 .. 0000000, 1, 10 ..
        Due.is("one period", x.build(), 15);
        Due.is("runs(0, -1)", x.runs(0, -1), 1);
        Due.is("no RUNS", x.build(), 1);
    }

    private static void word() {
        Due.part("promise 3");
        EvenWire x = new EvenWire();
        int[][] wrong = {{0, 0}, {0, 7}, {0, -1}, {2, 1}, {-1, 3}, {8, 3}, {64, 6}, {LEAST, 6}, {MOST, 6}, {0, MOST}, {0, LEAST}};
        for (int[] pair : wrong) {
            Due.is("word(" + pair[0] + ", " + pair[1] + ")", x.word(pair[0], pair[1]), -2);
        }
        Due.is("word(3, 2)", x.word(3, 2), 1);
        Due.is("no 1s side by side", x.build(), 2);
        Due.is("11", x.walk(0, 3, 2), -1);
        Due.is("10101", x.walk(0, 21, 5), 1);
        Due.is("word(63, 6)", x.word(63, 6), 2);
        Due.is("word(3, 2)", x.word(3, 2), 3);
        Due.is("word(0, 1)", x.word(0, 1), 4);
        Due.is("word(0, 1)", x.word(0, 1), -4);
        Due.is("a wrong one, too", x.word(2, 1), -2);
        Due.is("ban(2)", x.ban(2), 4);
        Due.is("neither 0 nor 11", x.build(), 0);
        EvenWire y = new EvenWire();
        y.word(44, 6);
        y.build();
        Due.is("101100 behind 0s", y.walk(0, 44, 20), -1);
        Due.is("101100 in between", y.walk(0, 44 << 3 | 7, 12), -1);
        Due.is("10110 then 1", y.walk(0, 45, 6) >= 0 ? 1 : 0, 1);
    }

    private static void clearWords() {
        Due.part("promise 4");
        EvenWire x = new EvenWire();
        Due.is("clearWords()", x.clearWords(), 0);
        x.word(0, 1);
        x.word(1, 1);
        Due.is("clearWords()", x.clearWords(), 2);
        Due.is("ban(2)", x.ban(2), 0);
        Due.is("ban(10)", x.ban(10), -2);
        Due.is("build()", x.build(), 1);
        Due.is("word(1, 1)", x.word(1, 1), 1);
        Due.is("ban(10)", x.ban(10), 1);
    }

    private static void lean() {
        Due.part("promise 5");
        EvenWire x = new EvenWire();
        int[] wrong = {-2, 6, LEAST, MOST};
        for (int l = 0; l <= 5; l++) {
            Due.is("lean(" + l + ")", x.lean(l), 1);
            Due.is("LEANS of " + l, x.build(), l == 0 ? 0 : 2 * l + 1);
        }
        for (int l : wrong) {
            Due.is("lean(" + l + ")", x.lean(l), -2);
        }
        Due.is("LEAN stays", x.ban(3), 5);
        Due.is("5 1s", x.walk(0, 31, 5) >= 0 ? 1 : 0, 1);
        Due.is("6 1s", x.walk(0, 63, 6), -1);
        Due.is("6 0s", x.walk(0, 0, 6), -1);
        Due.is("lean(-1)", x.lean(-1), 1);
        Due.is("no LEAN", x.build(), 1);
    }

    private static void ban() {
        Due.part("promise 6");
        EvenWire x = new EvenWire();
        x.runs(2, 5);
        x.lean(4);
        x.word(5, 3);
        x.word(0, 6);
        int[] what = {0, 1, 2, 3, 10, 20, 11, 21};
        int[] due = {2, 5, 2, 4, 5, 3, 0, 6};
        for (int i = 0; i < what.length; i++) {
            Due.is("ban(" + what[i] + ")", x.ban(what[i]), due[i]);
        }
        int[] wrong = {-1, 4, 9, 12, 13, 14, 19, 22, 23, 24, LEAST, MOST};
        for (int other : wrong) {
            Due.is("ban(" + other + ")", x.ban(other), -2);
        }
        x.word(1, 2);
        x.word(2, 2);
        Due.is("ban(13)", x.ban(13), 2);
        Due.is("ban(23)", x.ban(23), 2);
        Due.is("ban(14)", x.ban(14), -2);
        Due.is("ban(24)", x.ban(24), -2);
        x.runs(0, -1);
        Due.is("ban(0)", x.ban(0), 0);
        Due.is("ban(1)", x.ban(1), -1);
        x.lean(-1);
        Due.is("ban(3)", x.ban(3), -1);
    }

    private static void build() {
        Due.part("promise 7");
        EvenWire x = spaced();
        int[][] goes = {{1, 2}, {3, 2}, {1, -1}, {4, 2}, {-1, 2}};
        for (int state = 0; state < 5; state++) {
            Due.is("go(" + state + ", 0)", x.go(state, 0), goes[state][0]);
            Due.is("go(" + state + ", 1)", x.go(state, 1), goes[state][1]);
        }
        x.code(1, 2);
        Due.is("a CODE", x.count(3), 4);
        x.runs(0, 1);
        Due.is("BANS alone change no WIRE", x.states(), 5);
        Due.is("a CODE still", x.count(3), 4);
        Due.is("build()", x.build(), 2);
        Due.is("no CODE", x.count(3) + x.count(4) + x.count(5), 0);
        Due.is("no HOME", x.count(6), -1);
        x.lean(0);
        Due.is("no GOOD ROW", x.build(), 0);
        Due.is("states()", x.states(), 0);
        EvenWire y = new EvenWire();
        // 0 can't be gone on with: 00, 01 and 1 all end in nothing.
        y.word(0, 2);
        y.word(1, 2);
        Due.is("0 is not GOOD", y.build(), 1);
        Due.is("go(0, 0)", y.go(0, 0), -1);
        EvenWire z = new EvenWire();
        z.runs(0, 7);
        z.lean(5);
        z.word(7, 4);
        z.word(41, 6);
        z.word(26, 6);
        Due.is("100 STATES", z.build(), 100);
        Due.is("go(99, 0) is one", z.go(99, 0) < 100 ? 1 : 0, 1);
        Due.is("go(100, 0)", z.go(100, 0), -2);
        EvenWire u = new EvenWire();
        u.runs(0, 7);
        u.lean(5);
        u.word(17, 6);
        u.word(42, 6);
        Due.is("101 STATES", u.build(), -4);
    }

    private static void buildFull() {
        Due.part("promise 7, FULL");
        EvenWire x = tooMany();
        Due.is("too many STATES", x.build(), -4);
        Due.is("one of the 40", x.count(7), 1);
        Due.is("no WIRE still", x.states(), 0);
        x.clearWords();
        x.lean(2);
        x.runs(0, -1);
        Due.is("build()", x.build(), 5);
        x.weigh(3, 9);
        x.mark(12);
        x.code(2, 4);
        tellTooMany(x);
        Due.is("too many STATES", x.build(), -4);
        Due.is("THE WIRE stays", x.states(), 5);
        Due.is("go(3, 0)", x.go(3, 0), -1);
        Due.is("count(0, 10)", x.count(0, 10), 324);
        Due.is("a CODE stays", x.count(3), 5);
        Due.is("WEIGHTS stay", x.weight(3), 9);
        Due.is("what mark() found stays", x.marked(), 0);
        Due.is("mark(12)", x.mark(12), 5);
        for (int call = 4; call <= 40; call++) {
            Due.is("build() no. " + call, x.build(), -4);
            Due.is("count(7)", x.count(7), call);
        }
        x.lean(1);
        x.runs(0, -1);
        x.clearWords();
        Due.is("build() no. 41", x.build(), -4);
        Due.is("count(7)", x.count(7), 40);
        Due.is("THE WIRE stays", x.states(), 5);
        Due.is("a CODE stays", x.wordOf(0, 0), 2);
        EvenWire y = new EvenWire();
        y.lean(3);
        for (int call = 1; call <= 40; call++) {
            Due.is("build() no. " + call, y.build(), 7);
        }
        Due.is("build() no. 41", y.build(), -4);
    }

    private static void states() {
        Due.part("promise 8");
        Due.is("ahead of build()", new EvenWire().states(), 0);
        Due.is("spaced", spaced().states(), 5);
        Due.is("free", free().states(), 1);
        Due.is("dumb", dumb().states(), 0);
    }

    private static void go() {
        Due.part("promise 9");
        EvenWire x = even();
        Due.is("go(1, 0)", x.go(1, 0), 3);
        Due.is("go(1, 1)", x.go(1, 1), 0);
        Due.is("go(3, 0)", x.go(3, 0), -1);
        Due.is("go(4, 1)", x.go(4, 1), -1);
        Due.is("go(4, 0)", x.go(4, 0), 2);
        int[][] wrong = {{-1, 0}, {5, 0}, {0, 2}, {0, -1}, {MOST, 1}, {LEAST, 1}, {0, MOST}, {0, LEAST}, {99, 1}, {100, 0}};
        for (int[] pair : wrong) {
            Due.is("go(" + pair[0] + ", " + pair[1] + ")", x.go(pair[0], pair[1]), -2);
        }
        Due.is("no STATE", new EvenWire().go(0, 0), -2);
        Due.is("no STATE", dumb().go(0, 1), -2);
    }

    private static void walk() {
        Due.part("promise 10");
        EvenWire x = spaced();
        Due.is("walk(3, 0, 0)", x.walk(3, 0, 0), 3);
        Due.is("walk(0, 5, 4)", x.walk(0, 5, 4), 2);
        Due.is("walk(0, 3, 2)", x.walk(0, 3, 2), -1);
        Due.is("the highest bit first", x.walk(2, 1, 2), 2);
        Due.is("the highest bit first", x.walk(2, 2, 2), -1);
        long alternating = 0x555555555555555L;
        Due.is("60 bits", x.walk(0, alternating, 60), 2);
        Due.is("60 bits", x.walk(0, alternating - 1, 60), 3);
        Due.is("60 bits", x.walk(0, (1L << 60) - 1, 60), -1);
        wrongRow("walk", x);
        Due.is("no STATE", new EvenWire().walk(0, 0, 0), -2);
    }

    /** What is BAD for walk and number alike. */
    private static void wrongRow(String call, EvenWire x) {
        long[][] wrong = {{0, 1, 0}, {0, -1, 3}, {0, 8, 3}, {0, 0, -1}, {0, 0, 61}, {0, 1L << 60, 60}, {0, Long.MIN_VALUE, 60},
            {0, Long.MAX_VALUE, 60}, {5, 0, 1}, {-1, 0, 1}, {0, 0, MOST}, {0, 0, LEAST}, {0, 0, 64}, {LEAST, 0, 1}, {0, 1L << 32, 6}};
        for (long[] w : wrong) {
            long got = call.equals("walk") ? x.walk((int) w[0], w[1], (int) w[2]) : x.number((int) w[0], w[1], (int) w[2]);
            Due.is(call + "(" + w[0] + ", " + w[1] + ", " + w[2] + ")", got, -2);
        }
    }

    private static void first() {
        Due.part("promise 11");
        EvenWire x = spaced();
        int[] lengths = {0, 1, 1, 2, 3};
        int[] rows = {0, 0, 1, 0, 0};
        for (int state = 0; state < 5; state++) {
            Due.is("first(" + state + ", 0)", x.first(state, 0), lengths[state]);
            Due.is("first(" + state + ", 1)", x.first(state, 1), rows[state]);
        }
        EvenWire y = even();
        Due.is("first(4, 0)", y.first(4, 0), 2);
        Due.is("first(4, 1)", y.first(4, 1), 3);
        EvenWire z = hundred();
        Due.is("100 STATES", z.states(), 100);
        int longest = 0;
        for (int state = 0; state < 100; state++) {
            int n = (int) z.first(state, 0);
            longest = Math.max(longest, n);
            Due.is("the first ROW of " + state + " leads there", z.walk(0, z.first(state, 1), n), state);
        }
        Due.is("the longest of them", longest, 35);
        int[][] wrong = {{-1, 0}, {5, 0}, {0, 2}, {0, -1}, {5, 1}, {MOST, 0}, {LEAST, 1}, {0, MOST}};
        for (int[] pair : wrong) {
            Due.is("first(" + pair[0] + ", " + pair[1] + ")", x.first(pair[0], pair[1]), -2);
        }
        Due.is("no STATE", new EvenWire().first(0, 0), -2);
    }

    private static void count() {
        Due.part("promise 12");
        EvenWire x = spaced();
        Due.is("count(0, 0)", x.count(0, 0), 1);
        Due.is("count(0, 1)", x.count(0, 1), 2);
        Due.is("count(2, 1)", x.count(2, 1), 1);
        Due.is("count(0, 8)", x.count(0, 8), 32);
        Due.is("count(0, 60)", x.count(0, 60), 13763352055L);
        Due.is("all rows of 60", free().count(0, 60), 1L << 60);
        Due.is("all rows of 59", free().count(0, 59), 1L << 59);
        EvenWire y = new EvenWire();
        y.word(3, 2);
        y.build();
        long ahead = 1;
        long sum = 2;
        for (int n = 1; n <= 60; n++) {
            Due.is("Fibonacci " + n, y.count(0, n), sum);
            sum += ahead;
            ahead = sum - ahead;
        }
        int[][] wrong = {{0, -1}, {0, 61}, {-1, 3}, {5, 3}, {0, MOST}, {0, LEAST}, {MOST, 0}, {LEAST, 60}};
        for (int[] pair : wrong) {
            Due.is("count(" + pair[0] + ", " + pair[1] + ")", x.count(pair[0], pair[1]), -2);
        }
        Due.is("no STATE", new EvenWire().count(0, 0), -2);
        Due.is("no STATE", dumb().count(0, 3), -2);
    }

    private static void number() {
        Due.part("promise 13");
        EvenWire x = spaced();
        Due.is("number(0, 18, 6)", x.number(0, 18, 6), 6);
        Due.is("number(0, 0, 0)", x.number(0, 0, 0), 0);
        Due.is("leads nowhere", x.number(0, 3, 2), -1);
        Due.is("leads nowhere", x.number(2, 1L << 59, 60), -1);
        Due.is("the last of 60", free().number(0, (1L << 60) - 1, 60), (1L << 60) - 1);
        for (int state = 0; state < 5; state++) {
            EvenWire y = spaced();
            long less = 0;
            for (int row = 0; row < 1 << 7; row++) {
                boolean leads = y.walk(state, row, 7) >= 0;
                Due.is("number(" + state + ", " + row + ", 7)", y.number(state, row, 7), leads ? less : -1);
                less += leads ? 1 : 0;
            }
        }
        wrongRow("number", x);
        Due.is("no STATE", new EvenWire().number(0, 0, 0), -2);
    }

    private static void row() {
        Due.part("promise 14");
        EvenWire x = spaced();
        Due.is("row(0, 5, 6)", x.row(0, 5, 6), 17);
        Due.is("row(0, 0, 0)", x.row(0, 0, 0), 0);
        Due.is("row(0, 1, 0)", x.row(0, 1, 0), -1);
        Due.is("row(0, 31, 8)", x.row(0, 31, 8), 0xAA);
        Due.is("row(0, 32, 8)", x.row(0, 32, 8), -1);
        Due.is("row(0, most, 60)", x.row(0, Long.MAX_VALUE, 60), -1);
        Due.is("free", free().row(0, 123456789012345678L, 60), 123456789012345678L);
        Due.is("free", free().row(0, 1L << 60, 60), -1);
        for (long number = 0; number < 13763352055L; number += 1376335205L) {
            long row = x.row(2, number % x.count(2, 60), 60);
            Due.is("there and back", x.number(2, row, 60), number % x.count(2, 60));
        }
        long[][] wrong = {{0, -1, 3}, {0, Long.MIN_VALUE, 3}, {0, 0, -1}, {0, 0, 61}, {5, 0, 3}, {-1, 0, 3}, {0, 0, MOST}, {LEAST, 0, 0}};
        for (long[] w : wrong) {
            Due.is("row(" + w[0] + ", " + w[1] + ", " + w[2] + ")", x.row((int) w[0], w[1], (int) w[2]), -2);
        }
        Due.is("no STATE", new EvenWire().row(0, 0, 0), -2);
    }

    private static void ways() {
        Due.part("promise 15");
        EvenWire x = spaced();
        SlowWire s = Wires.slow(1, 3, -1);
        for (int i = 0; i < 5; i++) {
            for (int j = 0; j < 5; j++) {
                for (int n = 0; n <= 12; n++) {
                    Due.is("ways(" + i + ", " + j + ", " + n + ")", x.ways(i, j, n), s.waysOf(n)[i][j]);
                }
            }
        }
        Due.is("free", free().ways(0, 0, 12), 4096);
        int[][] wrong = {{0, 0, -1}, {0, 0, 13}, {5, 0, 1}, {0, 5, 1}, {-1, 0, 1}, {0, -1, 1}, {0, 0, MOST}, {MOST, 0, 0}, {0, LEAST, 0}};
        for (int[] w : wrong) {
            Due.is("ways(" + w[0] + ", " + w[1] + ", " + w[2] + ")", x.ways(w[0], w[1], w[2]), -2);
        }
        Due.is("no STATE", new EvenWire().ways(0, 0, 0), -2);
    }

    private static void mark() {
        Due.part("promise 16");
        EvenWire x = spaced();
        Due.is("mark(1)", x.mark(1), -1);
        Due.is("mark(2)", x.mark(2), 2);
        Due.is("11", x.marked(), 3);
        EvenWire y = even();
        Due.is("mark(4)", y.mark(4), -1);
        Due.is("mark(12)", y.mark(12), 5);
        Due.is("00000", y.marked(), 0);
        Due.is("no word of 12", free().mark(12), -1);
        EvenWire z = new EvenWire();
        z.lean(5);
        z.build();
        Due.is("mark(10)", z.mark(10), -1);
        Due.is("mark(11)", z.mark(11), 11);
        z.word(40, 6);
        z.word(45, 6);
        z.build();
        Due.is("mark(6)", z.mark(6), 6);
        Due.is("the least of two", z.marked(), 40);
        EvenWire u = new EvenWire();
        u.word(1, 2);
        u.word(2, 3);
        u.word(2, 2);
        u.build();
        Due.is("0s or 1s alone", u.mark(5), 2);
        Due.is("01", u.marked(), 1);
        EvenWire v = new EvenWire();
        // 10 can't be gone on with, so no GOOD ROW has it, told or not
        v.word(4, 3);
        v.word(5, 3);
        v.build();
        Due.is("no told word", v.mark(3), 2);
        Due.is("10", v.marked(), 2);
        markByTrying();
        int[] wrong = {0, -1, 13, MOST, LEAST};
        for (int most : wrong) {
            Due.is("mark(" + most + ")", x.mark(most), -2);
            Due.is("mark(" + most + ") without STATES", dumb().mark(most), -2);
        }
        Due.is("mark(1) without STATES", dumb().mark(1), -3);
        Due.is("mark(12) ahead of build()", new EvenWire().mark(12), -3);
    }

    /** On wires of 40 and 100 STATES the second writing walks each word from each STATE, until one leads nowhere from all. */
    private static void markByTrying() {
        EvenWire[] wires = {leadByOne(), hundred()};
        SlowWire[] slow = {Wires.slow(0, 6, 4, "01111", "0110", "010"), Wires.slow(0, 2, 5, "001011", "001001", "010010", "00111")};
        for (int i = 0; i < wires.length; i++) {
            EvenWire x = wires[i];
            int length = slow[i].mark(12);
            Due.is("one bit less", x.mark(length - 1), -1);
            Due.is("the shortest", x.mark(length), length);
            Due.is("the least", x.marked(), slow[i].marked);
            Due.is("no longer one", x.mark(12), length);
            Due.is("one bit less, behind it", x.mark(length - 1), -1);
            Due.is("and it stays", x.marked(), slow[i].marked);
        }
        EvenWire y = hundred();
        y.mark(12);
        y.clearWords();
        y.lean(1);
        y.build();
        Due.is("anew behind build()", y.mark(12), 3);
        Due.is("000", y.marked(), 0);
    }

    private static void marked() {
        Due.part("promise 17");
        EvenWire x = spaced();
        Due.is("none yet", x.marked(), 0);
        x.mark(1);
        Due.is("none found", x.marked(), 0);
        x.mark(7);
        Due.is("11", x.marked(), 3);
        x.mark(1);
        Due.is("the last one found", x.marked(), 3);
        x.mark(0);
        Due.is("the last one found", x.marked(), 3);
        tellTooMany(x);
        x.build();
        Due.is("a FULL build()", x.marked(), 3);
        x.runs(0, -1);
        x.lean(-1);
        x.clearWords();
        x.build();
        Due.is("another WIRE", x.marked(), 0);
        x.mark(12);
        Due.is("none there", x.marked(), 0);
        x.lean(0);
        x.build();
        x.mark(12);
        Due.is("no STATES", x.marked(), 0);
    }

    private static void weigh() {
        Due.part("promise 18");
        EvenWire x = spaced();
        Due.is("weigh(4, 1000000)", x.weigh(4, 1000000), 0);
        Due.is("weigh(4, 0)", x.weigh(4, 0), 1000000);
        Due.is("weigh(0, 7)", x.weigh(0, 7), 0);
        int[][] wrong = {{0, -1}, {0, 1000001}, {5, 1}, {-1, 1}, {0, MOST}, {0, LEAST}, {MOST, 0}, {LEAST, 0}, {100, 1}};
        for (int[] pair : wrong) {
            Due.is("weigh(" + pair[0] + ", " + pair[1] + ")", x.weigh(pair[0], pair[1]), -2);
        }
        Due.is("weigh(0, 8)", x.weigh(0, 8), 7);
        x.build();
        Due.is("anew behind build()", x.weigh(0, 1), 0);
        Due.is("no STATE", new EvenWire().weigh(0, 1), -2);
    }

    private static void weight() {
        Due.part("promise 19");
        EvenWire x = spaced();
        x.weigh(2, 5);
        Due.is("weight(2)", x.weight(2), 5);
        Due.is("weight(1)", x.weight(1), 0);
        int[] wrong = {-1, 5, 99, 100, MOST, LEAST};
        for (int state : wrong) {
            Due.is("weight(" + state + ")", x.weight(state), -2);
        }
        x.build();
        Due.is("0 behind build()", x.weight(2), 0);
        Due.is("no STATE", new EvenWire().weight(0), -2);
        Due.is("no STATE", dumb().weight(0), -2);
    }

    private static void judge() {
        Due.part("promise 20");
        EvenWire x = even();
        Due.is("all 0", x.judge(0, 1), 0);
        for (int state = 0; state < 5; state++) {
            x.weigh(state, state < 3 ? 2 : 1);
        }
        // by 2 bits: from 0 to 0 2 ways, to 3 and 4 one each; from 1 to 1 2 ways, to 2 one; from 3 to 3 and 0 one each
        Due.is("judge(1, 2)", x.judge(1, 2), -1);
        Due.is("judge(2, 2)", x.judge(2, 2), 0);
        x.weigh(0, 1);
        Due.is("judge(2, 2)", x.judge(2, 2), 1);
        x.weigh(1, 0);
        x.weigh(2, 0);
        Due.is("judge(2, 2)", x.judge(2, 2), 3);
        x.weigh(3, 0);
        x.weigh(4, 0);
        Due.is("judge(1, 2): one STATE above 0", x.judge(1, 2), -1);
        Due.is("judge(1, 1)", x.judge(1, 1), 0);
        EvenWire y = free();
        y.weigh(0, 1000000);
        Due.is("judge(12, 12)", y.judge(12, 12), -1);
        Due.is("judge(12, 11)", y.judge(12, 11), 0);
        Due.is("judge(0, 12)", y.judge(0, 12), -1);
        int[][] wrong = {{-1, 1}, {13, 1}, {0, 0}, {0, 13}, {0, -1}, {MOST, 1}, {1, MOST}, {LEAST, 1}, {1, LEAST}};
        for (int[] pair : wrong) {
            Due.is("judge(" + pair[0] + ", " + pair[1] + ")", y.judge(pair[0], pair[1]), -2);
            Due.is("judge without STATES", dumb().judge(pair[0], pair[1]), -2);
        }
        Due.is("without STATES", dumb().judge(0, 1), -3);
        Due.is("ahead of build()", new EvenWire().judge(12, 12), -3);
    }

    private static void best() {
        Due.part("promise 21");
        EvenWire x = spaced();
        Due.is("best(1, 2, 200)", x.best(1, 2, 200), 900);
        int[] due = {200, 200, 200, 200, 100};
        for (int state = 0; state < 5; state++) {
            Due.is("weight(" + state + ")", x.weight(state), due[state]);
        }
        Due.is("they show it", x.judge(1, 2), -1);
        Due.is("best(2, 2, 200)", x.best(2, 2, 200), 0);
        for (int state = 0; state < 5; state++) {
            Due.is("all are 0 then", x.weight(state), 0);
        }
        Due.is("best(0, 1, 1)", x.best(0, 1, 1), 5);
        EvenWire y = free();
        Due.is("best(12, 12, 200)", y.best(12, 12, 200), 200);
        Due.is("best(12, 11, 200)", y.best(12, 11, 200), 0);
        bestByTrying();
        x.weigh(0, 33);
        int[][] wrong = {{-1, 1, 1}, {13, 1, 1}, {0, 0, 1}, {0, 13, 1}, {0, 1, 0}, {0, 1, 201}, {0, 1, -1}, {MOST, 1, 1},
            {1, MOST, 1}, {1, 1, MOST}, {LEAST, 1, 1}, {1, LEAST, 1}, {1, 1, LEAST}};
        for (int[] w : wrong) {
            Due.is("best(" + w[0] + ", " + w[1] + ", " + w[2] + ")", x.best(w[0], w[1], w[2]), -2);
            Due.is("best without STATES", dumb().best(w[0], w[1], w[2]), -2);
        }
        Due.is("a refusal changes nothing", x.weight(0), 33);
        Due.is("without STATES", dumb().best(0, 1, 1), -3);
        Due.is("ahead of build()", new EvenWire().best(0, 1, 1), -3);
    }

    /** All WEIGHTS up to 3 are tried: what shows 1 by 2 is nowhere above the best. */
    private static void bestByTrying() {
        EvenWire x = spaced();
        int sum = x.best(1, 2, 3);
        int[] best = new int[5];
        int[] seen = new int[5];
        for (int state = 0; state < 5; state++) {
            best[state] = x.weight(state);
        }
        Due.is("the sum", sum, best[0] + best[1] + best[2] + best[3] + best[4]);
        for (int tried = 0; tried < 1024; tried++) {
            EvenWire y = spaced();
            for (int state = 0; state < 5; state++) {
                y.weigh(state, tried >> 2 * state & 3);
            }
            if (y.judge(1, 2) == -1) {
                for (int state = 0; state < 5; state++) {
                    seen[state] = Math.max(seen[state], tried >> 2 * state & 3);
                }
            }
        }
        for (int state = 0; state < 5; state++) {
            Due.is("the greatest of STATE " + state, best[state], seen[state]);
        }
    }

    private static void code() {
        Due.part("promise 22");
        EvenWire x = spaced();
        Due.is("code(1, 2)", x.code(1, 2), 4);
        Due.is("m", x.count(4), 1);
        Due.is("n", x.count(5), 2);
        int[][] wrong = {{0, 1}, {9, 12}, {1, 0}, {1, 13}, {-1, 1}, {MOST, 1}, {1, MOST}, {LEAST, 1}, {1, LEAST}};
        for (int[] pair : wrong) {
            Due.is("code(" + pair[0] + ", " + pair[1] + ")", x.code(pair[0], pair[1]), -2);
            Due.is("code without STATES", dumb().code(pair[0], pair[1]), -2);
        }
        Due.is("the CODE stays", x.count(3), 4);
        Due.is("code(2, 2)", x.code(2, 2), 0);
        Due.is("gone", x.count(3) + x.count(4) + x.count(5), 0);
        Due.is("gone", x.wordOf(0, 0), -3);
        Due.is("gone", x.write(), -3);
        EvenWire y = even();
        Due.is("code(3, 4)", y.code(3, 4), 2);
        Due.is("HOME", y.count(6), 1);
        Due.is("code(1, 1)", y.code(1, 1), 0);
        Due.is("code(1, 2)", y.code(1, 2), 5);
        Due.is("code(8, 12)", y.code(8, 12), 5);
        EvenWire z = hundred();
        Due.is("all of 100", z.code(1, 12), 100);
        z.clearWords();
        z.lean(2);
        z.runs(0, -1);
        z.build();
        Due.is("a lesser WIRE behind a greater", z.code(1, 2), 5);
        Due.is("code(8, 8)", free().code(8, 8), 1);
        Due.is("code(8, 7)", free().code(8, 7), 0);
        Due.is("without STATES", dumb().code(1, 1), -3);
        Due.is("ahead of build()", new EvenWire().code(8, 12), -3);
    }

    private static void member() {
        Due.part("promise 23");
        EvenWire x = spaced();
        Due.is("no CODE", x.member(0), -3);
        Due.is("no STATE, no CODE", x.member(5), -2);
        x.code(1, 2);
        // from 000 only 10 leads on by 2 bits
        int[] due = {1, 1, 1, 1, 0};
        for (int state = 0; state < 5; state++) {
            Due.is("member(" + state + ")", x.member(state), due[state]);
        }
        int[] wrong = {-1, 5, 99, 100, MOST, LEAST};
        for (int state : wrong) {
            Due.is("member(" + state + ")", x.member(state), -2);
        }
        EvenWire y = even();
        y.code(3, 4);
        for (int state = 0; state < 5; state++) {
            Due.is("member(" + state + ")", y.member(state), state == 1 || state == 2 ? 1 : 0);
        }
        Due.is("no STATES", dumb().member(0), -2);
    }

    private static void wordOf() {
        Due.part("promise 24");
        EvenWire x = even();
        Due.is("no CODE", x.wordOf(0, 0), -3);
        Due.is("no CODE, no STATE", x.wordOf(-7, -7), -3);
        x.code(2, 4);
        for (int state = 0; state < 5; state++) {
            int v = 0;
            for (int word = 0; word < 16; word++) {
                if (v < 4 && x.walk(state, word, 4) >= 0) {
                    Due.is("wordOf(" + state + ", " + v + ")", x.wordOf(state, v), word);
                    v++;
                }
            }
        }
        x.code(3, 4);
        // from LEAN -1 by 4 bits to LEAN -1 or 1: not below -2 or above 2 on the way
        int[] words = {5, 6, 7, 9, 10, 11, 12, 13};
        for (int v = 0; v < 8; v++) {
            Due.is("wordOf(1, " + v + ")", x.wordOf(1, v), words[v]);
        }
        int[][] wrong = {{0, 0}, {3, 0}, {1, 8}, {1, -1}, {5, 0}, {-1, 0}, {MOST, 0}, {1, MOST}, {1, LEAST}};
        for (int[] pair : wrong) {
            Due.is("wordOf(" + pair[0] + ", " + pair[1] + ")", x.wordOf(pair[0], pair[1]), -2);
        }
        EvenWire y = spaced();
        y.code(1, 2);
        Due.is("a row to no MEMBER is no WORD", y.wordOf(1, 0), 1);
        Due.is("the next", y.wordOf(1, 1), 2);
    }

    private static void read() {
        Due.part("promise 25");
        EvenWire x = even();
        Due.is("no CODE", x.read(0, 0), -3);
        Due.is("no CODE, no STATE", x.read(-7, -7), -3);
        x.code(3, 4);
        for (int state = 1; state <= 2; state++) {
            for (int word = 0; word < 16; word++) {
                int due = -1;
                for (int v = 0; v < 8; v++) {
                    due = x.wordOf(state, v) == word ? v : due;
                }
                Due.is("read(" + state + ", " + word + ")", x.read(state, word), due);
            }
        }
        Due.is("8 WORDS, not the ninth row", x.read(2, x.wordOf(2, 7) + 1), -1);
        int[][] wrong = {{0, 5}, {4, 5}, {1, 16}, {1, -1}, {5, 5}, {-1, 5}, {MOST, 5}, {1, MOST}, {1, LEAST}};
        for (int[] pair : wrong) {
            Due.is("read(" + pair[0] + ", " + pair[1] + ")", x.read(pair[0], pair[1]), -2);
        }
        EvenWire y = free();
        y.code(1, 2);
        Due.is("read(0, 1)", y.read(0, 1), 1);
        Due.is("a row of which too many are less", y.read(0, 2), -1);
    }

    private static void say() {
        Due.part("promise 26");
        EvenWire x = new EvenWire();
        Due.is("say(0, 0)", x.say(0, 0), 0);
        Due.is("say(6, 3)", x.say(6, 3), 3);
        Due.is("the first bit", x.message(0), 1);
        Due.is("the last bit", x.message(2), 0);
        Due.is("say(1, 1)", x.say(1, 1), 4);
        Due.is("behind", x.message(3), 1);
        long[][] wrong = {{1, 0}, {-1, 3}, {8, 3}, {0, -1}, {0, 61}, {1L << 60, 60}, {Long.MIN_VALUE, 60}, {0, MOST}, {0, LEAST}, {1L << 32, 32}};
        for (long[] w : wrong) {
            Due.is("say(" + w[0] + ", " + w[1] + ")", x.say(w[0], (int) w[1]), -2);
        }
        Due.is("nothing came", x.count(0), 4);
        Due.is("60 more", x.say((1L << 60) - 1, 60), 64);
        x.say(0, 60);
        x.say(0, 60);
        Due.is("184 and 57", x.say(0, 57), -4);
        Due.is("184 and 56", x.say(1, 56), 240);
        Due.is("the last bit", x.message(239), 1);
        Due.is("one more", x.say(0, 1), -4);
        Due.is("none more", x.say(0, 0), 240);
        Due.is("wrong and too much", x.say(2, 1), -2);
    }

    private static void hush() {
        Due.part("promise 27");
        EvenWire x = new EvenWire();
        Due.is("hush()", x.hush(), 0);
        x.say(5, 3);
        x.put(5, 3);
        Due.is("hush()", x.hush(), 3);
        Due.is("empty", x.count(0), 0);
        Due.is("message(0)", x.message(0), -2);
        Due.is("the PLATE stays", x.count(1), 3);
        Due.is("anew", x.say(0, 1), 1);
        Due.is("message(0)", x.message(0), 0);
    }

    private static void message() {
        Due.part("promise 28");
        EvenWire x = new EvenWire();
        Due.is("empty", x.message(0), -2);
        x.say(44, 6);
        int[] due = {1, 0, 1, 1, 0, 0};
        for (int i = 0; i < 6; i++) {
            Due.is("message(" + i + ")", x.message(i), due[i]);
        }
        int[] wrong = {-1, 6, 240, 600, MOST, LEAST};
        for (int i : wrong) {
            Due.is("message(" + i + ")", x.message(i), -2);
        }
    }

    private static void plateIs(String due, EvenWire x) {
        Due.is("bits of the PLATE", x.count(1), due.length());
        for (int i = 0; i < due.length(); i++) {
            Due.is("plate(" + i + ")", x.plate(i), due.charAt(i) - '0');
        }
    }

    private static void messageIs(String due, EvenWire x) {
        Due.is("bits of the MESSAGE", x.count(0), due.length());
        for (int i = 0; i < due.length(); i++) {
            Due.is("message(" + i + ")", x.message(i), due.charAt(i) - '0');
        }
    }

    private static void write() {
        Due.part("promise 29");
        EvenWire x = even();
        x.put(1, 1);
        x.say(5, 4);
        Due.is("no CODE", x.write(), -3);
        plateIs("1", x);
        x.code(3, 4);
        // THE LEAD is 0; 010 is the third WORD at LEAN -1 (0101, 0110, 0111 ..), that leads to LEAN 1;
        // 1 filled up is 100, the fifth WORD there (0001, 0010, 0011, 0100, 0101 ..)
        Due.is("write()", x.write(), 9);
        plateIs("0" + "0111" + "0101", x);
        messageIs("0101", x);
        x.hush();
        Due.is("THE LEAD alone", x.write(), 1);
        plateIs("0", x);
        EvenWire y = free();
        y.code(1, 3);
        for (int i = 0; i < 4; i++) {
            y.say((1L << 50) - 1, 50);
        }
        Due.is("600 bits", y.write(), 600);
        Due.is("the last", y.plate(599), 1);
        y.say(0, 1);
        Due.is("603 bits", y.write(), -4);
        Due.is("the PLATE stays", y.count(1), 600);
        Due.is("the PLATE stays", y.plate(597), 0);
        y.hush();
        Due.is("nothing", y.write(), 0);
        writeWithLead();
    }

    /** THE LEAD is counted among the 600 bits. */
    private static void writeWithLead() {
        EvenWire x = new EvenWire();
        x.runs(0, 2);
        x.lean(2);
        x.word(41, 6);
        x.word(6, 6);
        x.word(51, 6);
        x.word(37, 6);
        x.build();
        Due.is("code(1, 4)", x.code(1, 4), 10);
        Due.is("a LEAD of one bit", x.first(x.count(6), 0), 1);
        x.say(5, 29);
        x.say(5, 60);
        x.say(5, 60);
        Due.is("1 and 149 WORDS of 4", x.write(), 597);
        Due.is("and back", x.tell(), 149);
        x.say(0, 1);
        Due.is("1 and 150 WORDS of 4", x.write(), -4);
        Due.is("the PLATE stays", x.count(1), 597);
        EvenWire z = leadByOne();
        Due.is("code(2, 6)", z.code(2, 6), 7);
        Due.is("HOME", z.count(6), 2);
        z.say(3, 2);
        Due.is("a LEAD of 1", z.write(), 7);
        Due.is("plate(0)", z.plate(0), 1);
        Due.is("a WORD at HOME", z.walk(0, 64 + z.wordOf(2, 3), 7), z.walk(2, z.wordOf(2, 3), 6));
        Due.is("tell()", z.tell(), 2);
        z.spoil(0);
        Due.is("another LEAD", z.tell(), -100);
        EvenWire y = even();
        y.code(1, 4);
        Due.is("HOME", y.count(6), 0);
        for (int i = 0; i < 3; i++) {
            y.say(0, 50);
        }
        Due.is("150 WORDS of 4 without a LEAD", y.write(), 600);
        Due.is("and back", y.tell(), 150);
    }

    private static void tell() {
        Due.part("promise 30");
        EvenWire x = even();
        Due.is("no CODE", x.tell(), -3);
        x.code(3, 4);
        x.say(13, 4);
        x.write();
        x.hush();
        Due.is("filled up", x.tell(), 6);
        messageIs("110100", x);
        Due.is("the PLATE stays", x.count(1), 9);
        x.cut(1);
        Due.is("THE LEAD alone", x.tell(), 0);
        messageIs("", x);
        EvenWire y = free();
        y.code(1, 1);
        for (int i = 0; i < 4; i++) {
            y.put(i, 60);
        }
        Due.is("240 bits", y.tell(), 240);
        Due.is("the last", y.message(239), 1);
        y.put(0, 1);
        Due.is("241 bits", y.tell(), -4);
        Due.is("the MESSAGE stays", y.count(0), 240);
        y.cut(0);
        Due.is("nothing", y.tell(), 0);
        y.code(8, 8);
        for (int i = 0; i < 4; i++) {
            y.put(0, 60);
        }
        y.put(0, 8);
        Due.is("31 WORDS of 8", y.tell(), -4);
        y.cut(247);
        Due.is("a piece too short behind 240 bits", y.tell(), -340);
    }

    private static void tellFaults() {
        Due.part("promise 30, FAULTS");
        EvenWire x = even();
        x.code(3, 4);
        x.say(13, 4);
        Due.is("no bit of THE LEAD", x.tell(), -100);
        x.put(1, 1);
        Due.is("another bit of THE LEAD", x.tell(), -100);
        x.write();
        x.spoil(0);
        Due.is("another bit of THE LEAD", x.tell(), -100);
        x.spoil(0);
        // 1100 becomes 1000, which leads from LEAN -1 below -2
        x.spoil(2);
        Due.is("no WORD", x.tell(), -101);
        x.spoil(2);
        x.cut(8);
        Due.is("a piece of 3", x.tell(), -105);
        x.cut(6);
        Due.is("a piece of 1", x.tell(), -105);
        x.cut(5);
        x.put(15, 4);
        Due.is("no WORD", x.tell(), -105);
        x.put(1, 2);
        Due.is("the first FAULT", x.tell(), -105);
        messageIs("1101", x);
        x.cut(5);
        Due.is("no FAULT", x.tell(), 3);
    }

    private static void put() {
        Due.part("promise 31");
        EvenWire x = new EvenWire();
        Due.is("put(0, 0)", x.put(0, 0), 0);
        Due.is("put(6, 3)", x.put(6, 3), 3);
        Due.is("put(1, 2)", x.put(1, 2), 5);
        plateIs("11001", x);
        long[][] wrong = {{1, 0}, {-1, 3}, {8, 3}, {0, -1}, {0, 61}, {1L << 60, 60}, {Long.MIN_VALUE, 60}, {0, MOST}, {0, LEAST}};
        for (long[] w : wrong) {
            Due.is("put(" + w[0] + ", " + w[1] + ")", x.put(w[0], (int) w[1]), -2);
        }
        for (int i = 1; i <= 9; i++) {
            Due.is("60 more", x.put((1L << 60) - 1, 60), 5 + 60 * i);
        }
        Due.is("545 and 56", x.put(0, 56), -4);
        Due.is("545 and 55", x.put(1, 55), 600);
        Due.is("the last", x.plate(599), 1);
        Due.is("one more", x.put(0, 1), -4);
        Due.is("none more", x.put(0, 0), 600);
        Due.is("wrong and too much", x.put(2, 1), -2);
        Due.is("the MESSAGE stays", x.count(0), 0);
    }

    private static void cut() {
        Due.part("promise 32");
        EvenWire x = new EvenWire();
        Due.is("cut(0)", x.cut(0), 0);
        Due.is("cut(1)", x.cut(1), -2);
        x.put(44, 6);
        Due.is("cut(6)", x.cut(6), 0);
        Due.is("cut(7)", x.cut(7), -2);
        Due.is("cut(-1)", x.cut(-1), -2);
        Due.is("cut(most)", x.cut(MOST), -2);
        Due.is("cut(least)", x.cut(LEAST), -2);
        Due.is("cut(4)", x.cut(4), 2);
        plateIs("1011", x);
        x.put(0, 1);
        plateIs("10110", x);
        Due.is("cut(0)", x.cut(0), 5);
        plateIs("", x);
    }

    private static void spoil() {
        Due.part("promise 33");
        EvenWire x = new EvenWire();
        Due.is("empty", x.spoil(0), -2);
        x.put(4, 3);
        Due.is("spoil(0)", x.spoil(0), 1);
        Due.is("spoil(2)", x.spoil(2), 0);
        plateIs("001", x);
        Due.is("spoil(2)", x.spoil(2), 1);
        int[] wrong = {-1, 3, 600, MOST, LEAST};
        for (int i : wrong) {
            Due.is("spoil(" + i + ")", x.spoil(i), -2);
        }
        plateIs("000", x);
        x.cut(1);
        Due.is("gone", x.spoil(1), -2);
    }

    private static void plate() {
        Due.part("promise 34");
        EvenWire x = new EvenWire();
        Due.is("empty", x.plate(0), -2);
        x.put(44, 6);
        plateIs("101100", x);
        int[] wrong = {-1, 6, 600, MOST, LEAST};
        for (int i : wrong) {
            Due.is("plate(" + i + ")", x.plate(i), -2);
        }
        x.cut(2);
        Due.is("gone", x.plate(2), -2);
    }

    private static void check() {
        Due.part("promise 35");
        EvenWire x = spaced();
        Due.is("empty", x.check(), -1);
        x.put(0x522, 11);
        Due.is("10100100010", x.check(), -1);
        x.spoil(1);
        Due.is("11", x.check(), 1);
        x.spoil(1);
        x.spoil(5);
        Due.is("0000", x.check(), 6);
        x.cut(6);
        Due.is("cut", x.check(), -1);
        EvenWire y = new EvenWire();
        y.word(4, 3);
        y.word(5, 3);
        y.build();
        y.put(6, 3);
        Due.is("10 keeps the BANS, but can't be gone on with", y.check(), 2);
        EvenWire z = new EvenWire();
        Due.is("ahead of build()", z.check(), -3);
        z.lean(0);
        z.build();
        Due.is("no STATES", z.check(), -3);
        EvenWire u = even();
        for (int i = 0; i < 10; i++) {
            u.put(0x555555555555555L, 60);
        }
        Due.is("600 bits", u.check(), -1);
        u.spoil(598);
        Due.is("11 behind 01", u.check(), -1);
        u.spoil(596);
        Due.is("11 11", u.check(), 598);
    }

    private static void shape() {
        Due.part("promise 36");
        EvenWire x = new EvenWire();
        shapeIs(x, 0, 0, 0, 0, 0);
        x.put(1, 1);
        shapeIs(x, 0, 1, 1, 1, 0);
        x.cut(0);
        x.put(0, 1);
        shapeIs(x, -1, 0, 1, 1, 0);
        x.cut(0);
        // LEANS 1 2 1 0 -1 -2 -1
        x.put(97, 7);
        shapeIs(x, -2, 2, 12, 4, 2);
        x.cut(0);
        for (int i = 0; i < 10; i++) {
            x.put((1L << 60) - 1, 60);
        }
        shapeIs(x, 0, 600, 72180100, 600, 0);
        x.cut(0);
        for (int i = 0; i < 10; i++) {
            x.put(0, 60);
        }
        x.spoil(300);
        shapeIs(x, -598, 0, -1, 300, 2);
        int[] wrong = {-1, 5, MOST, LEAST};
        for (int what : wrong) {
            Due.is("shape(" + what + ")", x.shape(what), -2);
        }
    }

    private static void shapeIs(EvenWire x, int... due) {
        for (int what = 0; what < 5; what++) {
            if (what != 2 || due[what] >= 0) {
                Due.is("shape(" + what + ")", x.shape(what), due[what]);
            }
        }
    }

    private static void countOf() {
        Due.part("promise 37");
        EvenWire x = even();
        x.say(5, 3);
        x.put(5, 5);
        int[] without = {3, 5, 5, 0, 0, 0, -1, 1};
        for (int what = 0; what < 8; what++) {
            Due.is("count(" + what + ")", x.count(what), without[what]);
        }
        x.code(3, 4);
        x.build();
        x.code(3, 4);
        int[] due = {3, 5, 5, 2, 3, 4, 1, 2};
        for (int what = 0; what < 8; what++) {
            Due.is("count(" + what + ")", x.count(what), due[what]);
        }
        int[] wrong = {-1, 8, MOST, LEAST};
        for (int what : wrong) {
            Due.is("count(" + what + ")", x.count(what), -2);
        }
        for (int i = 0; i < 50; i++) {
            x.build();
        }
        Due.is("40 at most", x.count(7), 40);
    }

    private static void digest() {
        Due.part("promise 38");
        EvenWire x = spaced();
        x.best(1, 2, 200);
        x.code(1, 2);
        x.say(5, 3);
        x.write();
        x.tell();
        digestIs(x);
        x.hush();
        Due.is("as the shared test has it", x.digest(), 8210686679284926823L);
        digestIs(x);
        digestIs(new EvenWire());
        digestIs(even());
        EvenWire y = free();
        for (int i = 0; i < 4; i++) {
            y.put(45, 7);
            y.say(i, 5);
            digestIs(y);
        }
        long was = y.digest();
        Due.is("asking changes nothing", y.digest(), was);
        y.spoil(27);
        Due.holds("another last bit is another digest", y.digest() != was);
    }

    private static void digestIs(EvenWire x) {
        long h = 17;
        for (int what = 0; what < 8; what++) {
            h = 31 * h + x.count(what);
        }
        for (int state = 0; state < x.states(); state++) {
            h = 31 * h + x.go(state, 0);
            h = 31 * h + x.go(state, 1);
            h = 31 * h + x.weight(state);
        }
        for (int i = 0; i < x.count(0); i++) {
            h = 31 * h + x.message(i);
        }
        for (int i = 0; i < x.count(1); i++) {
            h = 31 * h + x.plate(i);
        }
        Due.is("digest()", x.digest(), h);
    }
}
