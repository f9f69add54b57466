/** Promises 18 to 25 and the Terms of WEIGHTS and CODES: a test for each sentence that names a boundary. */
public final class CodeEdgesTest {
    private static final int LEAST = Wires.LEAST;
    private static final int MOST = Wires.MOST;
    private static final int[] FAR = {LEAST, LEAST + 1, -32, -2, 14, 32, 33, 64, MOST - 1, MOST};

    private CodeEdgesTest() {
    }

    public static void main(String[] args) {
        weighTakesWhatIsTold();
        weighTellsWhatItWas();
        weighOfNoState();
        weightEdges();
        weightsBehindBuild();
        judgeTakesWhatIsTold();
        judgeIsBadAheadOfNot();
        judgeOfNoWeights();
        judgeOfJustEnough();
        judgeTakesTheFirst();
        judgeOfGreatSums();
        bestTakesWhatIsTold();
        bestIsBadAheadOfNot();
        bestOfNone();
        bestOfMost();
        bestForgetsWhatWas();
        codeTakesWhatIsTold();
        codeIsBadAheadOfNot();
        codeOfJustEnoughRows();
        codeThatIsNone();
        codeAfterCode();
        homeIsTheLeastMember();
        memberEdges();
        memberIsBadAheadOfNot();
        wordOfEdges();
        wordOfIsNotAheadOfBad();
        wordOfTheLeastFirst();
        readEdges();
        readIsNotAheadOfBad();
        readOfNoWord();
        Due.end();
    }

    private static void weighTakesWhatIsTold() {
        Due.part("promise 18: WEIGHT of a STATE (0 to 1000000); BAD");
        int[] told = {0, 1, 999999, 1000000};
        int[] wrong = {LEAST, -1000000, -1, 1000001, 2000000, MOST};
        EvenWire x = Wires.leaning(2);
        for (int state = 0; state < 5; state++) {
            for (int v : told) {
                Due.is("weigh(" + state + ", " + v + ")", x.weigh(state, v) >= 0 ? 1 : 0, 1);
                Due.is("weight(" + state + ")", x.weight(state), v);
                for (int other : wrong) {
                    Due.is("weigh(" + state + ", " + other + ")", x.weigh(state, other), -2);
                }
                Due.is("it stays", x.weight(state), v);
            }
        }
    }

    private static void weighTellsWhatItWas() {
        Due.part("promise 18: what it was");
        EvenWire x = Wires.leaning(2);
        Due.is("0 at first", x.weigh(4, 1000000), 0);
        Due.is("the most", x.weigh(4, 5), 1000000);
        Due.is("the same once more", x.weigh(4, 5), 5);
        Due.is("to 0", x.weigh(4, 0), 5);
        Due.is("from 0", x.weigh(4, 1), 0);
        for (int state = 0; state < 4; state++) {
            Due.is("the others", x.weight(state), 0);
        }
    }

    private static void weighOfNoState() {
        Due.part("promise 18: BAD: no such STATE");
        int[] states = {LEAST, -1, 5, 6, 99, 100, 101, MOST};
        EvenWire x = Wires.leaning(2);
        for (int state : states) {
            Due.is("weigh(" + state + ", 1)", x.weigh(state, 1), -2);
            Due.is("weigh(" + state + ", -1)", x.weigh(state, -1), -2);
        }
        for (int state = 0; state < 5; state++) {
            Due.is("weight(" + state + ")", x.weight(state), 0);
        }
        Due.is("ahead of build()", new EvenWire().weigh(0, 1), -2);
        Due.is("no STATES", Wires.dumb().weigh(0, 1), -2);
    }

    private static void weightEdges() {
        Due.part("promise 19: BAD");
        int[] states = {LEAST, -1, 5, 6, 99, 100, 101, MOST};
        EvenWire x = Wires.leaning(2);
        for (int state : states) {
            Due.is("weight(" + state + ")", x.weight(state), -2);
        }
        Due.is("the first", x.weight(0), 0);
        Due.is("the last", x.weight(4), 0);
        Due.is("ahead of build()", new EvenWire().weight(0), -2);
        Due.is("no STATES", Wires.dumb().weight(0), -2);
    }

    private static void weightsBehindBuild() {
        Due.part("Terms: WEIGHTS: 0 at first, behind each build()");
        EvenWire x = Wires.leaning(5);
        for (int state = 0; state < 11; state++) {
            x.weigh(state, state + 1);
        }
        x.lean(2);
        x.build();
        for (int state = 0; state < 5; state++) {
            Due.is("of a lesser WIRE, weight(" + state + ")", x.weight(state), 0);
        }
        Due.is("no STATE 5", x.weight(5), -2);
        x.weigh(0, 1);
        Due.is("judge(0, 2) sees no WEIGHT of old", x.judge(1, 2), -1);
        x.lean(5);
        x.build();
        for (int state = 0; state < 11; state++) {
            Due.is("of the greater WIRE, weight(" + state + ")", x.weight(state), 0);
        }
        Due.is("all are 0", x.judge(0, 1), 0);
    }

    private static void judgeTakesWhatIsTold() {
        Due.part("promise 20: m 0 to 12, n 1 to 12; BAD");
        EvenWire x = Wires.free();
        x.weigh(0, 1);
        for (int m = -1; m <= 13; m++) {
            for (int n = -1; n <= 14; n++) {
                boolean fits = m >= 0 && m <= 12 && n >= 1 && n <= 12;
                // 2^n rows lead from the one STATE to itself
                Due.is("judge(" + m + ", " + n + ")", x.judge(m, n), !fits ? -2 : n >= m ? -1 : 0);
            }
        }
        for (int one : FAR) {
            Due.is("judge(" + one + ", 1)", x.judge(one, 1), -2);
            Due.is("judge(1, " + one + ")", x.judge(1, one), -2);
        }
    }

    private static void judgeIsBadAheadOfNot() {
        Due.part("promise 20: BAD; NOT: there are no STATES");
        EvenWire[] stateless = {new EvenWire(), Wires.dumb()};
        for (EvenWire x : stateless) {
            for (int m = -1; m <= 13; m++) {
                for (int n = -1; n <= 14; n++) {
                    boolean fits = m >= 0 && m <= 12 && n >= 1 && n <= 12;
                    Due.is("judge(" + m + ", " + n + ")", x.judge(m, n), fits ? -3 : -2);
                }
            }
        }
    }

    private static void judgeOfNoWeights() {
        Due.part("promise 20: 0, if all are 0");
        EvenWire x = Wires.leaning(2);
        Due.is("judge(0, 1)", x.judge(0, 1), 0);
        Due.is("judge(12, 12)", x.judge(12, 12), 0);
        x.weigh(3, 1);
        x.weigh(3, 0);
        Due.is("all are 0 again", x.judge(0, 2), 0);
        x.weigh(4, 1);
        // by 2 bits one row leads from STATE 4 to itself
        Due.is("one is above 0", x.judge(0, 2), -1);
    }

    /** LEAN 1: by 2 bits two rows lead from 0 to itself; from each of the others one to itself, one to the other. */
    private static void judgeOfJustEnough() {
        Due.part("Terms: the sum is 2^m times the WEIGHT of i or more");
        EvenWire x = Wires.leaning(1);
        x.weigh(0, 7);
        Due.is("just as much", x.judge(1, 2), -1);
        Due.is("half as much", x.judge(2, 2), 0);
        x.weigh(0, 0);
        x.weigh(1, 3);
        x.weigh(2, 3);
        Due.is("just as much", x.judge(1, 2), -1);
        x.weigh(1, 4);
        Due.is("one too little", x.judge(1, 2), 1);
        x.weigh(1, 2);
        Due.is("one too little", x.judge(1, 2), 2);
        Due.is("m = 0: 5 are 3 and more", x.judge(0, 2), -1);
    }

    private static void judgeTakesTheFirst() {
        Due.part("promise 20: the first STATE for which the sum is too little");
        EvenWire x = Wires.leaning(2);
        for (int state = 4; state >= 0; state--) {
            x.weigh(state, 1);
            Due.is("from " + state + " on", x.judge(12, 12), state);
        }
        for (int state = 0; state < 4; state++) {
            x.weigh(state, 0);
            Due.is("without " + state, x.judge(12, 12), state + 1);
        }
    }

    private static void judgeOfGreatSums() {
        Due.part("promise 20: sums above 2^31");
        EvenWire x = Wires.free();
        x.weigh(0, 1000000);
        Due.is("4096 times 1000000", x.judge(12, 12), -1);
        Due.is("2048 times it", x.judge(12, 11), 0);
        Due.is("4096 times it, one asked for", x.judge(0, 12), -1);
        EvenWire y = Wires.leaning(1);
        y.weigh(1, 1000000);
        y.weigh(2, 999999);
        Due.is("64 times 1000000 and 999999 less one of each two", y.judge(6, 12), 1);
        y.weigh(2, 1000000);
        Due.is("just as much", y.judge(6, 12), -1);
        EvenWire z = Wires.built(0, -1, -1, "000000");
        for (int state = 0; state < 6; state++) {
            z.weigh(state, 1000000);
        }
        Due.is("more than 2^31 from most STATES", z.judge(10, 12), -1);
    }

    private static void bestTakesWhatIsTold() {
        Due.part("promise 21: at most so much (1 to 200); m by n; BAD");
        EvenWire x = Wires.free();
        for (int m = -1; m <= 13; m++) {
            for (int n = -1; n <= 14; n++) {
                boolean fits = m >= 0 && m <= 12 && n >= 1 && n <= 12;
                Due.is("best(" + m + ", " + n + ", 200)", x.best(m, n, 200), !fits ? -2 : n >= m ? 200 : 0);
            }
        }
        int[] wrong = {LEAST, -200, -1, 0, 201, 202, 400, MOST};
        for (int most : wrong) {
            Due.is("best(1, 1, " + most + ")", x.best(1, 1, most), -2);
        }
        for (int one : FAR) {
            Due.is("best(" + one + ", 1, 1)", x.best(one, 1, 1), -2);
            Due.is("best(1, " + one + ", 1)", x.best(1, one, 1), -2);
        }
        for (int most = 1; most <= 200; most++) {
            Due.is("best(1, 1, " + most + ")", x.best(1, 1, most), most);
        }
    }

    private static void bestIsBadAheadOfNot() {
        Due.part("promise 21: BAD; NOT");
        EvenWire[] stateless = {new EvenWire(), Wires.dumb()};
        for (EvenWire x : stateless) {
            for (int m = -1; m <= 13; m++) {
                for (int n = -1; n <= 14; n++) {
                    boolean fits = m >= 0 && m <= 12 && n >= 1 && n <= 12;
                    Due.is("best(" + m + ", " + n + ", 1)", x.best(m, n, 1), fits ? -3 : -2);
                }
            }
            Due.is("best(1, 1, 0)", x.best(1, 1, 0), -2);
            Due.is("best(1, 1, 200)", x.best(1, 1, 200), -3);
            Due.is("best(1, 1, 201)", x.best(1, 1, 201), -2);
        }
    }

    private static void bestOfNone() {
        Due.part("promise 21: 0: there are none (all are 0 then)");
        EvenWire x = Wires.leaning(2);
        for (int state = 0; state < 5; state++) {
            x.weigh(state, 1000000);
        }
        Due.is("best(1, 1, 200)", x.best(1, 1, 200), 0);
        for (int state = 0; state < 5; state++) {
            Due.is("weight(" + state + ")", x.weight(state), 0);
        }
        Due.is("judge(1, 1)", x.judge(1, 1), 0);
        // 2 less a little is less than 2: the WEIGHTS come down by little steps, but all of the way
        for (int k = 1; k <= 7; k++) {
            EvenWire slow = Wires.built(0, k, -1);
            Due.is("RUNS 0, " + k + " can't bear 1 by 1", slow.best(1, 1, 200), 0);
            Due.is("all are 0", slow.judge(0, 1), 0);
        }
        EvenWire y = Wires.leaning(1);
        // no WEIGHT of 1 shows 1 by 1; by 2 bits all of them show it, and none shows 2
        Due.is("best(1, 1, 1)", y.best(1, 1, 1), 0);
        Due.is("best(1, 2, 1)", y.best(1, 2, 1), 3);
        Due.is("best(2, 2, 1)", y.best(2, 2, 1), 0);
    }

    private static void bestOfMost() {
        Due.part("promise 21: the greatest ones, each at most so much");
        EvenWire x = Wires.spaced();
        int[] mosts = {1, 2, 199, 200};
        for (int most : mosts) {
            // STATE 4 has one row of 2 bits to a STATE of the most, so it bears the half, cut down
            Due.is("best(1, 2, " + most + ")", x.best(1, 2, most), 4 * most + most / 2);
            for (int state = 0; state < 5; state++) {
                Due.is("weight(" + state + ")", x.weight(state), state < 4 ? most : most / 2);
            }
            Due.is("they SHOW it", x.judge(1, 2), -1);
            for (int state = 0; state < 5; state++) {
                x.weigh(state, x.weight(state) + 1);
            }
            Due.is("one more of each: STATE 4 bears it behind an odd half", x.judge(1, 2), most % 2 == 1 ? -1 : 4);
        }
        EvenWire y = Wires.built(0, 2, 5, "001011", "001001", "010010", "00111");
        Due.is("m = 0 of 100 STATES", y.best(0, 1, 200), 20000);
        Due.is("m = 0 of 100 STATES, 12 bits", y.best(0, 12, 1), 100);
    }

    private static void bestForgetsWhatWas() {
        Due.part("promise 21: WEIGHTS are the greatest ones, whatever they were");
        EvenWire x = Wires.leaning(1);
        x.weigh(0, 1);
        x.weigh(1, 1000000);
        Due.is("best(1, 2, 9)", x.best(1, 2, 9), 27);
        for (int state = 0; state < 3; state++) {
            Due.is("weight(" + state + ")", x.weight(state), 9);
        }
        Due.is("best(1, 1, 9)", x.best(1, 1, 9), 0);
        Due.is("best(1, 2, 9) again", x.best(1, 2, 9), 27);
        Due.is("BAD", x.best(1, 2, 0), -2);
        Due.is("they stay", x.weight(0), 9);
    }

    private static void codeTakesWhatIsTold() {
        Due.part("Terms: a CODE of m by n (m 1 to 8, n 1 to 12); BAD");
        EvenWire x = Wires.free();
        for (int m = -1; m <= 10; m++) {
            for (int n = -1; n <= 14; n++) {
                boolean fits = m >= 1 && m <= 8 && n >= 1 && n <= 12;
                Due.is("code(" + m + ", " + n + ")", x.code(m, n), !fits ? -2 : n >= m ? 1 : 0);
            }
        }
        for (int one : FAR) {
            Due.is("code(" + one + ", 1)", x.code(one, 1), -2);
            Due.is("code(1, " + one + ")", x.code(1, one), -2);
        }
        Due.is("code(9, 9)", x.code(9, 9), -2);
    }

    private static void codeIsBadAheadOfNot() {
        Due.part("promise 22: BAD; NOT: there are no STATES");
        EvenWire[] stateless = {new EvenWire(), Wires.dumb()};
        for (EvenWire x : stateless) {
            for (int m = -1; m <= 10; m++) {
                for (int n = -1; n <= 14; n++) {
                    boolean fits = m >= 1 && m <= 8 && n >= 1 && n <= 12;
                    Due.is("code(" + m + ", " + n + ")", x.code(m, n), fits ? -3 : -2);
                }
            }
        }
    }

    /** LEAN 1: two rows of 2 bits from each STATE, four of 4, each to a STATE. */
    private static void codeOfJustEnoughRows() {
        Due.part("Terms: 2^m rows of n bits, or more, lead to MEMBERS");
        EvenWire x = Wires.leaning(1);
        for (int m = 1; m <= 6; m++) {
            Due.is("code(" + m + ", " + 2 * m + ")", x.code(m, 2 * m), 3);
            Due.is("code(" + m + ", " + (2 * m - 1) + ")", x.code(m, 2 * m - 1), 0);
            Due.is("code(" + (m + 1) + ", " + 2 * m + ")", x.code(m + 1, 2 * m), 0);
        }
        EvenWire y = Wires.spaced();
        y.code(1, 2);
        Due.is("two rows from 00: 01 and 10", y.member(3), 1);
        Due.is("one row from 000", y.member(4), 0);
        Due.is("three from 0, but one of them to no MEMBER", y.ways(1, 0, 2) + y.ways(1, 1, 2) + y.ways(1, 2, 2) + y.ways(1, 3, 2), 2);
    }

    private static void codeThatIsNone() {
        Due.part("promise 22: 0: there is none (the one that was is gone, too)");
        EvenWire x = Wires.leaning(1);
        x.code(1, 2);
        x.say(1, 1);
        x.write();
        Due.is("code(1, 1)", x.code(1, 1), 0);
        Due.is("member(0)", x.member(0), -3);
        Due.is("wordOf(0, 0)", x.wordOf(0, 0), -3);
        Due.is("read(0, 0)", x.read(0, 0), -3);
        Due.is("write()", x.write(), -3);
        Due.is("tell()", x.tell(), -3);
        Due.is("MEMBERS", x.count(3), 0);
        Due.is("m", x.count(4), 0);
        Due.is("n", x.count(5), 0);
        Due.is("HOME", x.count(6), -1);
        Due.is("the PLATE stays", x.count(1), 2);
        Due.is("the MESSAGE stays", x.count(0), 1);
    }

    private static void codeAfterCode() {
        Due.part("promise 22: a refused code() and another one");
        EvenWire x = Wires.leaning(2);
        Due.is("code(3, 4)", x.code(3, 4), 2);
        Due.is("BAD", x.code(9, 12), -2);
        Due.is("the CODE stays", x.count(4), 3);
        Due.is("its WORD", x.wordOf(1, 7), 13);
        Due.is("code(1, 2)", x.code(1, 2), 5);
        Due.is("m", x.count(4), 1);
        Due.is("n", x.count(5), 2);
        Due.is("HOME", x.count(6), 0);
        Due.is("no v of the one that was", x.wordOf(1, 7), -2);
        Due.is("weigh() and best() leave it", x.best(1, 2, 3), 15);
        Due.is("the CODE stays", x.count(3), 5);
    }

    private static void homeIsTheLeastMember() {
        Due.part("Terms: its HOME is the least MEMBER");
        EvenWire x = Wires.leaning(2);
        x.code(3, 4);
        Due.is("HOME", x.count(6), 1);
        Due.is("member(0)", x.member(0), 0);
        Due.is("member(1)", x.member(1), 1);
        x.code(2, 4);
        Due.is("HOME", x.count(6), 0);
        EvenWire y = Wires.built(0, 6, 4, "01111", "0110", "010");
        y.code(2, 6);
        Due.is("HOME", y.count(6), 2);
        for (int state = 0; state < 2; state++) {
            Due.is("member(" + state + ")", y.member(state), 0);
        }
        Due.is("member(2)", y.member(2), 1);
    }

    private static void memberEdges() {
        Due.part("promise 23: 1, 0; BAD");
        int[] wrong = {LEAST, -1, 5, 6, 99, 100, MOST};
        EvenWire x = Wires.leaning(2);
        x.code(3, 4);
        int[] due = {0, 1, 1, 0, 0};
        for (int state = 0; state < 5; state++) {
            Due.is("member(" + state + ")", x.member(state), due[state]);
        }
        for (int state : wrong) {
            Due.is("member(" + state + ")", x.member(state), -2);
        }
    }

    private static void memberIsBadAheadOfNot() {
        Due.part("promise 23: BAD; NOT: no CODE");
        EvenWire x = Wires.leaning(2);
        for (int state = -2; state <= 6; state++) {
            Due.is("member(" + state + ")", x.member(state), state >= 0 && state < 5 ? -3 : -2);
            Due.is("no STATES, member(" + state + ")", Wires.dumb().member(state), -2);
            Due.is("no build(), member(" + state + ")", new EvenWire().member(state), -2);
        }
    }

    private static void wordOfEdges() {
        Due.part("Terms: its WORD of v (0 .. 2^m - 1); promise 24: BAD: also no MEMBER");
        EvenWire x = Wires.free();
        for (int m = 1; m <= 8; m++) {
            x.code(m, 12);
            Due.is("v = 0", x.wordOf(0, 0), 0);
            Due.is("v = 2^m - 1", x.wordOf(0, (1 << m) - 1), (1 << m) - 1);
            Due.is("v = 2^m", x.wordOf(0, 1 << m), -2);
            Due.is("v = -1", x.wordOf(0, -1), -2);
            Due.is("v far above", x.wordOf(0, MOST), -2);
            Due.is("v far below", x.wordOf(0, LEAST), -2);
        }
        EvenWire y = Wires.leaning(2);
        y.code(3, 4);
        int[] noMembers = {LEAST, -1, 0, 3, 4, 5, 99, 100, MOST};
        for (int state : noMembers) {
            Due.is("wordOf(" + state + ", 0)", y.wordOf(state, 0), -2);
        }
        Due.is("wordOf(2, 7)", y.wordOf(2, 7) >= 0 ? 1 : 0, 1);
        Due.is("wordOf(2, 8)", y.wordOf(2, 8), -2);
    }

    private static void wordOfIsNotAheadOfBad() {
        Due.part("promise 24: NOT (ahead): no CODE");
        EvenWire none = Wires.leaning(1);
        none.code(1, 1);
        EvenWire[] codeless = {new EvenWire(), Wires.dumb(), Wires.leaning(2), none};
        int[] wild = {LEAST, -1, 0, 1, 5, 256, MOST};
        for (EvenWire x : codeless) {
            for (int state : wild) {
                for (int v : wild) {
                    Due.is("wordOf(" + state + ", " + v + ")", x.wordOf(state, v), -3);
                }
            }
        }
    }

    private static void wordOfTheLeastFirst() {
        Due.part("Terms: row number v, from 0, of those that lead from there to MEMBERS, the least first");
        EvenWire x = Wires.leaning(2);
        x.code(3, 4);
        for (int state = 1; state <= 2; state++) {
            int v = 0;
            for (int row = 0; row < 16; row++) {
                int to = x.walk(state, row, 4);
                if ((to == 1 || to == 2) && v < 8) {
                    Due.is("wordOf(" + state + ", " + v + ")", x.wordOf(state, v), row);
                    v++;
                }
            }
            Due.is("8 at least", v, 8);
        }
        EvenWire y = Wires.spaced();
        y.code(1, 2);
        // from 00 row 00 leads nowhere, 01 and 10 to 1 and 10; from 0 row 00 leads to 000, which is no MEMBER
        Due.is("wordOf(3, 0)", y.wordOf(3, 0), 1);
        Due.is("wordOf(3, 1)", y.wordOf(3, 1), 2);
        Due.is("wordOf(1, 0)", y.wordOf(1, 0), 1);
        // from the empty row 00, 01 and 10: the third is no WORD
        Due.is("wordOf(0, 0)", y.wordOf(0, 0), 0);
        Due.is("wordOf(0, 1)", y.wordOf(0, 1), 1);
        Due.is("wordOf(0, 2)", y.wordOf(0, 2), -2);
    }

    private static void readEdges() {
        Due.part("promise 25: BAD: a row that is none of n bits, no MEMBER");
        EvenWire x = Wires.free();
        for (int n = 1; n <= 12; n++) {
            x.code(1, n);
            Due.is("the least of " + n, x.read(0, 0), 0);
            Due.is("the next of " + n, x.read(0, 1), 1);
            Due.is("the greatest of " + n, x.read(0, (1 << n) - 1), n == 1 ? 1 : -1);
            Due.is("one more of " + n, x.read(0, 1 << n), -2);
            Due.is("below 0", x.read(0, -1), -2);
            Due.is("far below", x.read(0, LEAST), -2);
            Due.is("far above", x.read(0, MOST), -2);
        }
        EvenWire y = Wires.leaning(2);
        y.code(3, 4);
        int[] noMembers = {LEAST, -1, 0, 3, 4, 5, 99, 100, MOST};
        for (int state : noMembers) {
            Due.is("read(" + state + ", 5)", y.read(state, 5), -2);
            Due.is("read(" + state + ", 16)", y.read(state, 16), -2);
        }
    }

    private static void readIsNotAheadOfBad() {
        Due.part("promise 25: NOT (ahead)");
        EvenWire none = Wires.leaning(1);
        none.code(1, 1);
        EvenWire[] codeless = {new EvenWire(), Wires.dumb(), Wires.leaning(2), none};
        int[] wild = {LEAST, -1, 0, 1, 5, 4096, MOST};
        for (EvenWire x : codeless) {
            for (int state : wild) {
                for (int word : wild) {
                    Due.is("read(" + state + ", " + word + ")", x.read(state, word), -3);
                }
            }
        }
    }

    private static void readOfNoWord() {
        Due.part("promise 25: NONE");
        EvenWire x = Wires.spaced();
        x.code(1, 2);
        Due.is("leads nowhere", x.read(0, 3), -1);
        Due.is("leads to no MEMBER", x.read(1, 0), -1);
        Due.is("leads to a MEMBER, but two are less", x.read(0, 2), -1);
        Due.is("a WORD", x.read(0, 1), 1);
        Due.is("a WORD", x.read(3, 2), 1);
        Due.is("no MEMBER", x.read(4, 2), -2);
        EvenWire y = Wires.free();
        y.code(8, 12);
        Due.is("the last WORD", y.read(0, 255), 255);
        Due.is("the row behind it", y.read(0, 256), -1);
        Due.is("the last row", y.read(0, 4095), -1);
        Due.is("no row", y.read(0, 4096), -2);
    }
}
