/** Promises 1 to 6 and the Terms of BANS: a test for each sentence that names a boundary. */
public final class BansEdgesTest {
    private static final int LEAST = Wires.LEAST;
    private static final int MOST = Wires.MOST;
    private static final int LONGEST = 9;

    private BansEdgesTest() {
    }

    public static void main(String[] args) {
        newObjectHasNoBans();
        newObjectHasNoWire();
        newObjectHasNoCode();
        newObjectHasNoBits();
        runsTakesWhatIsTold();
        runsIsToldAnew();
        runsTakesNoneAway();
        runsBetweenOnes();
        runsAheadAndBehind();
        runsOfNextOnesAlone();
        wordTakesWhatIsTold();
        wordTellsHowMany();
        wordIsFullBehindFour();
        wordIsBadAheadOfFull();
        wordIsBannedAnywhere();
        clearWordsTellsHowMany();
        clearWordsLeavesTheRest();
        leanTakesWhatIsTold();
        leanIsToldAnew();
        leanOfEachBeginning();
        banTellsWhatIsTold();
        banWithoutRunsAndLean();
        bansWaitForBuild();
        aRowThatEndsIsNotGood();
        withoutTheEmptyRowNoneIsGood();
        Due.end();
    }

    private static void newObjectHasNoBans() {
        Due.part("promise 1: no BANS");
        EvenWire x = new EvenWire();
        for (int what = -1; what <= 25; what++) {
            int due = what == 0 || what == 2 ? 0 : what == 1 || what == 3 ? -1 : -2;
            Due.is("ban(" + what + ")", x.ban(what), due);
        }
        Due.is("clearWords()", x.clearWords(), 0);
        Due.is("build()", x.build(), 1);
        Due.is("any row is GOOD", x.count(0, 60), 1L << 60);
    }

    private static void newObjectHasNoWire() {
        Due.part("promise 1: no WIRE");
        EvenWire x = new EvenWire();
        Due.is("states()", x.states(), 0);
        Due.is("go(0, 0)", x.go(0, 0), -2);
        Due.is("walk(0, 0, 0)", x.walk(0, 0, 0), -2);
        Due.is("first(0, 0)", x.first(0, 0), -2);
        Due.is("first(0, 1)", x.first(0, 1), -2);
        Due.is("count(0, 0)", x.count(0, 0), -2);
        Due.is("number(0, 0, 0)", x.number(0, 0, 0), -2);
        Due.is("row(0, 0, 0)", x.row(0, 0, 0), -2);
        Due.is("ways(0, 0, 0)", x.ways(0, 0, 0), -2);
        Due.is("mark(1)", x.mark(1), -3);
        Due.is("marked()", x.marked(), 0);
        Due.is("weigh(0, 0)", x.weigh(0, 0), -2);
        Due.is("weight(0)", x.weight(0), -2);
        Due.is("judge(0, 1)", x.judge(0, 1), -3);
        Due.is("best(0, 1, 1)", x.best(0, 1, 1), -3);
        Due.is("code(1, 1)", x.code(1, 1), -3);
        Due.is("check()", x.check(), -3);
        Due.is("count(2)", x.count(2), 0);
        Due.is("count(7)", x.count(7), 0);
    }

    private static void newObjectHasNoCode() {
        Due.part("promise 1: no CODE");
        EvenWire x = new EvenWire();
        Due.is("member(0)", x.member(0), -2);
        Due.is("wordOf(0, 0)", x.wordOf(0, 0), -3);
        Due.is("read(0, 0)", x.read(0, 0), -3);
        Due.is("write()", x.write(), -3);
        Due.is("tell()", x.tell(), -3);
        Due.is("count(3)", x.count(3), 0);
        Due.is("count(4)", x.count(4), 0);
        Due.is("count(5)", x.count(5), 0);
        Due.is("count(6)", x.count(6), -1);
    }

    private static void newObjectHasNoBits() {
        Due.part("promise 1: MESSAGE and PLATE are empty");
        EvenWire x = new EvenWire();
        Due.is("count(0)", x.count(0), 0);
        Due.is("count(1)", x.count(1), 0);
        Due.is("hush()", x.hush(), 0);
        Due.is("message(0)", x.message(0), -2);
        Due.is("plate(0)", x.plate(0), -2);
        Due.is("spoil(0)", x.spoil(0), -2);
        Due.is("cut(0)", x.cut(0), 0);
        for (int what = 0; what <= 4; what++) {
            Due.is("shape(" + what + ")", x.shape(what), 0);
        }
        // 17 * 31^8, six times 0 behind it, then -1 of HOME, then no build()
        Due.is("digest()", x.digest(), 14499147636497L - 31);
    }

    private static void runsTakesWhatIsTold() {
        Due.part("promise 2: RUNS d, k (0 .. k, k 0 .. 7); k = -1, d = 0: no RUNS; BAD");
        for (int d = -2; d <= 9; d++) {
            for (int k = -2; k <= 9; k++) {
                runsAnswers(d, k, k >= 0 && k <= 7 && d >= 0 && d <= k || k == -1 && d == 0);
            }
        }
        int[] far = {LEAST, LEAST + 1, -8, 8, 256, MOST - 1, MOST};
        for (int one : far) {
            runsAnswers(one, 3, false);
            runsAnswers(one, -1, false);
            runsAnswers(0, one, false);
            runsAnswers(one, one, false);
            runsAnswers(one, -one, false);
        }
    }

    private static void runsAnswers(int d, int k, boolean fits) {
        EvenWire x = Wires.told(1, 4, -1);
        Due.is("runs(" + d + ", " + k + ")", x.runs(d, k), fits ? 1 : -2);
        Due.is("d behind runs(" + d + ", " + k + ")", x.ban(0), fits ? d : 1);
        Due.is("k behind runs(" + d + ", " + k + ")", x.ban(1), fits ? k : 4);
    }

    private static void runsIsToldAnew() {
        Due.part("promise 2: RUNS are told, anew");
        EvenWire x = Wires.told(3, 3, -1);
        Due.is("runs(0, 1)", x.runs(0, 1), 1);
        x.build();
        Due.holds("11 is GOOD", Wires.isGood(x, "11"));
        Due.holds("1001 is not", !Wires.isGood(x, "1001"));
        Due.is("runs(0, 1) once more", x.runs(0, 1), 1);
        Due.is("the same STATES", x.build(), 2);
    }

    private static void runsTakesNoneAway() {
        Due.part("promise 2: k = -1, d = 0: no RUNS");
        EvenWire x = Wires.told(7, 7, -1);
        Due.is("runs(0, -1)", x.runs(0, -1), 1);
        Due.is("build()", x.build(), 1);
        Due.holds("60 zeros", Wires.isGood(x, Wires.zeros(60)));
        Due.holds("60 ones", Wires.isGood(x, Wires.ones(60)));
        EvenWire y = new EvenWire();
        Due.is("runs(0, -1) without RUNS", y.runs(0, -1), 1);
    }

    private static void runsBetweenOnes() {
        Due.part("Terms: between two 1s there are d to k 0s");
        for (int k = 0; k <= 7; k++) {
            for (int d = 0; d <= k; d++) {
                EvenWire x = Wires.built(d, k, -1);
                for (int z = 0; z <= LONGEST; z++) {
                    boolean fits = z >= d && z <= k;
                    String told = "runs(" + d + ", " + k + "), " + z + " zeros";
                    Due.is(told, Wires.isGood(x, "1" + Wires.zeros(z) + "1") ? 1 : 0, fits ? 1 : 0);
                    Due.is(told + " twice", Wires.isGood(x, "1" + Wires.zeros(d) + "1" + Wires.zeros(z) + "1") ? 1 : 0, fits ? 1 : 0);
                }
            }
        }
    }

    private static void runsAheadAndBehind() {
        Due.part("Terms: ahead of the first 1, and behind the last one, k at most");
        for (int k = 0; k <= 7; k++) {
            for (int d = 0; d <= k; d++) {
                EvenWire x = Wires.built(d, k, -1);
                for (int z = 0; z <= LONGEST; z++) {
                    String told = "runs(" + d + ", " + k + "), " + z + " zeros ";
                    Due.is(told + "ahead", Wires.isGood(x, Wires.zeros(z) + "1") ? 1 : 0, z <= k ? 1 : 0);
                    Due.is(told + "behind", Wires.isGood(x, "1" + Wires.zeros(z)) ? 1 : 0, z <= k ? 1 : 0);
                    Due.is(told + "alone", Wires.isGood(x, Wires.zeros(z)) ? 1 : 0, z <= k ? 1 : 0);
                }
            }
        }
    }

    private static void runsOfNextOnesAlone() {
        Due.part("Terms: next to one another among 1s");
        EvenWire x = Wires.built(1, 1, -1);
        Due.holds("10101, with three places between the outer ones", Wires.isGood(x, "10101"));
        EvenWire y = Wires.built(2, 2, -1);
        Due.holds("1001001", Wires.isGood(y, "1001001"));
        Due.holds("10010001", !Wires.isGood(y, "10010001"));
        Due.holds("1001 01", !Wires.isGood(y, "100101"));
    }

    private static void wordTakesWhatIsTold() {
        Due.part("promise 3: n bits (1 to 6); BAD: also bits that are none of n");
        for (int n = 1; n <= 6; n++) {
            int[] fitting = {0, 1, (1 << n) - 1};
            int[] wrong = {-1, 1 << n, (1 << n) + 1, LEAST, MOST, -(1 << n)};
            for (int bits : fitting) {
                EvenWire x = new EvenWire();
                Due.is("word(" + bits + ", " + n + ")", x.word(bits, n), 1);
                Due.is("its bits", x.ban(10), bits);
                Due.is("its length", x.ban(20), n);
            }
            for (int bits : wrong) {
                EvenWire x = new EvenWire();
                Due.is("word(" + bits + ", " + n + ")", x.word(bits, n), -2);
                Due.is("no WORD", x.ban(2), 0);
            }
        }
        int[] lengths = {LEAST, -32, -1, 0, 7, 31, 32, 33, 38, 64, MOST};
        for (int n : lengths) {
            for (int bits = 0; bits <= 1; bits++) {
                EvenWire x = new EvenWire();
                Due.is("word(" + bits + ", " + n + ")", x.word(bits, n), -2);
                Due.is("no WORD", x.ban(2), 0);
            }
        }
    }

    private static void wordTellsHowMany() {
        Due.part("promise 3: a WORD more: how many");
        EvenWire x = new EvenWire();
        for (int i = 1; i <= 4; i++) {
            Due.is("WORD no. " + i, x.word(i, 4), i);
            Due.is("ban(2)", x.ban(2), i);
        }
        EvenWire y = new EvenWire();
        for (int i = 1; i <= 4; i++) {
            Due.is("the same WORD, no. " + i, y.word(5, 3), i);
        }
        y.build();
        Due.holds("banned as one", !Wires.isGood(y, "101") && Wires.isGood(y, "1001"));
    }

    private static void wordIsFullBehindFour() {
        Due.part("promise 3: WORDS, up to 4; FULL");
        EvenWire x = Wires.told(0, -1, -1, "11", "0000", "00000", "100100");
        Due.is("word(0, 1)", x.word(0, 1), -4);
        Due.is("one that is there", x.word(3, 2), -4);
        Due.is("still 4", x.ban(2), 4);
        Due.is("WORD 3 stays", x.ban(13), 36);
        Due.is("no WORD 4", x.ban(14), -2);
        x.build();
        Due.holds("the fifth is not banned", Wires.isGood(x, "0"));
        Due.is("clearWords()", x.clearWords(), 4);
        Due.is("room again", x.word(0, 1), 1);
    }

    private static void wordIsBadAheadOfFull() {
        Due.part("Terms: refusals, the first that fits: BAD ahead of FULL (word)");
        EvenWire x = Wires.told(0, -1, -1, "11", "000", "0101", "100100");
        Due.is("word(2, 1)", x.word(2, 1), -2);
        Due.is("word(0, 0)", x.word(0, 0), -2);
        Due.is("word(0, 7)", x.word(0, 7), -2);
        Due.is("word(-1, 3)", x.word(-1, 3), -2);
    }

    /** Behind a row without the one WORD some bit always makes none, so what lacks it is GOOD. */
    private static void wordIsBannedAnywhere() {
        Due.part("Terms: a ROW that has one of them anywhere, bit by bit, is banned");
        for (int n = 1; n <= 6; n++) {
            for (int bits = 0; bits < 1 << n; bits++) {
                String word = SlowWire.text(bits, n);
                EvenWire x = Wires.built(0, -1, -1, word);
                for (int length = 0; length <= 7; length++) {
                    for (int row = 0; row < 1 << length; row++) {
                        String told = SlowWire.text(row, length);
                        Due.is(word + " in " + told, Wires.isGood(x, told) ? 1 : 0, told.contains(word) ? 0 : 1);
                    }
                }
            }
        }
        EvenWire y = Wires.built(0, -1, -1, "101101");
        String far = Wires.zeros(54);
        Due.holds("at the start of 60", !Wires.isGood(y, "101101" + far));
        Due.holds("at the end of 60", !Wires.isGood(y, far + "101101"));
        Due.holds("but for its last bit", Wires.isGood(y, far + "101100"));
        Due.holds("as pieces", Wires.isGood(y, "10110010110"));
    }

    private static void clearWordsTellsHowMany() {
        Due.part("promise 4: there are no WORDS: how many there were");
        for (int words = 0; words <= 4; words++) {
            EvenWire x = new EvenWire();
            for (int i = 0; i < words; i++) {
                x.word(i, 5);
            }
            Due.is("clearWords() of " + words, x.clearWords(), words);
            Due.is("none", x.ban(2), 0);
            for (int i = 0; i < 4; i++) {
                Due.is("ban(1" + i + ")", x.ban(10 + i), -2);
                Due.is("ban(2" + i + ")", x.ban(20 + i), -2);
            }
            Due.is("clearWords() again", x.clearWords(), 0);
            Due.is("build()", x.build(), 1);
        }
    }

    private static void clearWordsLeavesTheRest() {
        Due.part("promise 4: WORDS alone");
        EvenWire x = Wires.told(1, 3, 4, "101");
        x.clearWords();
        Due.is("d", x.ban(0), 1);
        Due.is("k", x.ban(1), 3);
        Due.is("LEAN", x.ban(3), 4);
    }

    private static void leanTakesWhatIsTold() {
        Due.part("promise 5: LEAN l (0 .. 5), -1: none; BAD");
        int[] told = {LEAST, LEAST + 1, -6, -5, -3, -2, -1, 0, 1, 2, 3, 4, 5, 6, 7, 11, 256, MOST - 1, MOST};
        for (int l : told) {
            EvenWire x = Wires.told(0, -1, 3);
            boolean fits = l >= -1 && l <= 5;
            Due.is("lean(" + l + ")", x.lean(l), fits ? 1 : -2);
            Due.is("ban(3) behind lean(" + l + ")", x.ban(3), fits ? l : 3);
        }
    }

    private static void leanIsToldAnew() {
        Due.part("promise 5: LEAN is told, anew (-1: none)");
        EvenWire x = Wires.told(0, -1, 1);
        Due.is("lean(3)", x.lean(3), 1);
        x.build();
        Due.holds("111 is GOOD", Wires.isGood(x, "111"));
        Due.holds("1111 is not", !Wires.isGood(x, "1111"));
        Due.is("lean(-1)", x.lean(-1), 1);
        x.build();
        Due.holds("60 ones", Wires.isGood(x, Wires.ones(60)));
    }

    private static void leanOfEachBeginning() {
        Due.part("Terms: the LEAN of each beginning of the ROW is -l to l");
        for (int l = 0; l <= 5; l++) {
            EvenWire x = Wires.leaning(l);
            for (int length = 0; length <= 7; length++) {
                for (int row = 0; row < 1 << length; row++) {
                    String told = SlowWire.text(row, length);
                    // with l = 0 no bit can come behind the empty ROW
                    boolean fits = l > 0;
                    for (int i = 0; i <= length; i++) {
                        fits &= Math.abs(SlowWire.leanOf(told.substring(0, i))) <= l;
                    }
                    Due.is("LEAN " + l + ", " + told, Wires.isGood(x, told) ? 1 : 0, fits ? 1 : 0);
                }
            }
        }
        EvenWire y = Wires.leaning(5);
        Due.holds("5 ones, 10 zeros, 10 ones", Wires.isGood(y, Wires.ones(5) + Wires.zeros(10) + Wires.ones(10)));
        Due.holds("one more", !Wires.isGood(y, Wires.ones(5) + Wires.zeros(10) + Wires.ones(11)));
        Due.holds("one more, the other way", !Wires.isGood(y, Wires.ones(5) + Wires.zeros(11) + Wires.ones(6)));
    }

    private static void banTellsWhatIsTold() {
        Due.part("promise 6: 0 d, 1 k, 2 how many WORDS, 3 LEAN, 10 + i, 20 + i; BAD");
        String[] words = {"0", "01", "111111", "0000"};
        for (int many = 0; many <= 4; many++) {
            EvenWire x = Wires.told(2, 6, 4, java.util.Arrays.copyOf(words, many));
            for (int what = -12; what <= 36; what++) {
                int i = what % 10;
                int due = -2;
                if (what >= 0 && what <= 3) {
                    due = new int[] {2, 6, many, 4}[what];
                } else if (what >= 10 && what < 20 && i < many) {
                    due = (int) Wires.bits(words[i]);
                } else if (what >= 20 && what < 30 && i < many) {
                    due = words[i].length();
                }
                Due.is("ban(" + what + ") of " + many + " WORDS", x.ban(what), due);
            }
            int[] far = {LEAST, LEAST + 10, MOST - 10, MOST, 256, 266, -246};
            for (int what : far) {
                Due.is("ban(" + what + ")", x.ban(what), -2);
            }
        }
    }

    private static void banWithoutRunsAndLean() {
        Due.part("promise 6: 1 k (-1 without RUNS), 3 LEAN (-1)");
        EvenWire x = Wires.told(2, 6, 4);
        x.runs(0, -1);
        x.lean(-1);
        Due.is("ban(0)", x.ban(0), 0);
        Due.is("ban(1)", x.ban(1), -1);
        Due.is("ban(3)", x.ban(3), -1);
        x.runs(0, 0);
        x.lean(0);
        Due.is("ban(0)", x.ban(0), 0);
        Due.is("ban(1)", x.ban(1), 0);
        Due.is("ban(3)", x.ban(3), 0);
    }

    private static void bansWaitForBuild() {
        Due.part("promise 6 and 7: the BANS as told; THE WIRE of the BANS as they are");
        EvenWire x = Wires.spaced();
        x.runs(0, 0);
        x.lean(1);
        x.word(1, 1);
        Due.is("ban(1)", x.ban(1), 0);
        Due.is("THE WIRE is the one that was built", x.states(), 5);
        Due.holds("000 is GOOD still", Wires.isGood(x, "000"));
        Due.is("build()", x.build(), 0);
    }

    private static void aRowThatEndsIsNotGood() {
        Due.part("Terms: GOOD: for each number there are so many bits that can come behind it");
        // behind a 1: 0, then 0, then neither bit, though 100 keeps the BANS
        EvenWire x = Wires.built(0, -1, -1, "11", "101", "1000", "1001");
        Due.is("0s alone", x.states(), 1);
        Due.is("go(0, 1)", x.go(0, 1), -1);
        Due.is("go(0, 0)", x.go(0, 0), 0);
        x.put(Wires.bits("0010"), 4);
        Due.is("check()", x.check(), 2);
        EvenWire z = Wires.built(0, -1, 1, "0101", "1010");
        // LEAN 1 asks for pairs 01 or 10; two like pairs one behind the other are banned, so 01 10 01 10 ..
        Due.holds("0110 is GOOD", Wires.isGood(z, "0110"));
        Due.holds("01 is GOOD", Wires.isGood(z, "01"));
        Due.holds("010 is not: 0100 leans, 0101 is banned", !Wires.isGood(z, "010"));
        Due.is("each STATE has one way on but the empty ROW", z.count(0, 60), 2);
    }

    private static void withoutTheEmptyRowNoneIsGood() {
        Due.part("Terms: if the empty ROW is not, none is");
        // 00100 keeps the BANS, and none of 6 bits does
        EvenWire x = Wires.told(0, -1, -1, "000", "11", "101", "1001");
        Due.is("build()", x.build(), 0);
        Due.is("states()", x.states(), 0);
        Due.is("go(0, 0)", x.go(0, 0), -2);
        EvenWire y = Wires.told(0, -1, -1, "0", "1");
        Due.is("no bit at all", y.build(), 0);
        EvenWire z = Wires.told(0, 0, 5);
        Due.is("1s alone lean too much", z.build(), 0);
        EvenWire v = Wires.told(0, -1, 5, "00", "101");
        // behind 10 comes nothing, so behind a 1 come 1s alone, and LEAN ends them
        Due.is("LEAN ends the one row that is left", v.build(), 0);
        EvenWire u = Wires.told(7, 7, 2);
        Due.is("7 zeros lean too much", u.build(), 0);
    }
}
