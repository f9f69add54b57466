import java.util.ArrayList;
import java.util.HashSet;
import java.util.List;
import java.util.Set;

/** Promises 7 to 17 and the Terms of STATES and rows: a test for each sentence that names a boundary. */
public final class WireEdgesTest {
    private static final int LEAST = Wires.LEAST;
    private static final int MOST = Wires.MOST;
    private static final int[] NO_LENGTHS = {LEAST, -64, -4, -1, 61, 62, 63, 64, 65, 124, 128, MOST};

    private WireEdgesTest() {
    }

    public static void main(String[] args) {
        statesStandInTheOrderOfFirstRows();
        statesAreTheFewest();
        buildOfNoState();
        buildLeavesNoCode();
        buildOfHundredStates();
        buildOfMoreThanHundred();
        buildThatIsFullFirst();
        buildThatIsFullKeepsAll();
        buildFortyTimes();
        statesAheadOfBuild();
        goEdges();
        walkEdges();
        walkOfEachLength();
        walkThatLeadsNowhere();
        firstEdges();
        firstOfSixtyBits();
        countEdges();
        countOfEachLength();
        numberEdges();
        numberOfEachLength();
        numberThatLeadsNowhere();
        rowEdges();
        rowOfEachLength();
        rowThatIsNotThere();
        waysEdges();
        waysOfNoBits();
        waysOfTwelveBits();
        markEdges();
        markIsBadAheadOfNot();
        markOfMostBits();
        markTakesTheLeast();
        markBehindStateSixtyFour();
        markOfOneWireBehindAnother();
        markedWithoutAndBehindBuild();
        markedStaysBehindNone();
        markedStaysBehindFull();
        Due.end();
    }

    /** 100 STATES. */
    private static EvenWire hundred() {
        return Wires.built(0, 2, 5, "001011", "001001", "010010", "00111");
    }

    private static final String[] TOO_MANY = {"111111", "100000", "010101", "101010"};

    private static void tellTooMany(EvenWire x) {
        x.runs(0, 7);
        x.lean(5);
        x.clearWords();
        for (String word : TOO_MANY) {
            x.word((int) Wires.bits(word), 6);
        }
    }

    private static void tellNone(EvenWire x) {
        x.runs(0, -1);
        x.lean(-1);
        x.clearWords();
    }

    private static EvenWire[] someWires() {
        return new EvenWire[] {Wires.free(), Wires.spaced(), Wires.leaning(1), Wires.leaning(5), hundred(), Wires.built(7, 7, -1),
            Wires.built(0, -1, 1, "0101", "1010"), Wires.built(0, 6, 4, "01111", "0110", "010"), Wires.built(0, 0, -1)};
    }

    private static void statesStandInTheOrderOfFirstRows() {
        Due.part("Terms: STATES are numbered from 0 by the first ROW: the shorter first, of as long ones the lesser");
        for (EvenWire x : someWires()) {
            List<String> rows = new ArrayList<>(List.of(""));
            List<Integer> ends = new ArrayList<>(List.of(0));
            for (int i = 0; i < rows.size(); i++) {
                Due.is("STATE of " + rows.get(i), ends.get(i), i);
                for (int bit = 0; bit < 2; bit++) {
                    int to = x.go(ends.get(i), bit);
                    if (to >= 0 && !ends.contains(to)) {
                        rows.add(rows.get(i) + bit);
                        ends.add(to);
                    }
                }
            }
            Due.is("all are led to", rows.size(), x.states());
        }
    }

    private static void statesAreTheFewest() {
        Due.part("Terms: two GOOD ROWS are of one STATE, if the same rows of bits behind them make GOOD ROWS");
        for (EvenWire x : someWires()) {
            int size = x.states();
            int[][] goes = new int[size][2];
            for (int i = 0; i < size; i++) {
                goes[i][0] = x.go(i, 0);
                goes[i][1] = x.go(i, 1);
                Due.holds("STATE " + i + " can be gone on from", goes[i][0] >= 0 || goes[i][1] >= 0);
            }
            for (int i = 0; i < size; i++) {
                for (int j = 0; j < i; j++) {
                    Due.holds("STATES " + i + " and " + j + " of " + size + " differ", differ(goes, i, j));
                }
            }
        }
    }

    /** Whether some row leads on from one STATE and nowhere from the other. */
    private static boolean differ(int[][] goes, int i, int j) {
        Set<Integer> seen = new HashSet<>();
        List<int[]> pairs = new ArrayList<>();
        pairs.add(new int[] {i, j});
        for (int at = 0; at < pairs.size(); at++) {
            int[] pair = pairs.get(at);
            for (int bit = 0; bit < 2; bit++) {
                int a = goes[pair[0]][bit];
                int b = goes[pair[1]][bit];
                if (a < 0 != b < 0) {
                    return true;
                }
                if (a >= 0 && a != b && seen.add(1000 * a + b)) {
                    pairs.add(new int[] {a, b});
                }
            }
        }
        return false;
    }

    private static void buildOfNoState() {
        Due.part("promise 7: 0: no ROW is GOOD");
        EvenWire x = Wires.spaced();
        x.code(1, 2);
        x.weigh(0, 5);
        x.mark(2);
        x.lean(0);
        Due.is("build()", x.build(), 0);
        Due.is("states()", x.states(), 0);
        Due.is("go(0, 0)", x.go(0, 0), -2);
        Due.is("weight(0)", x.weight(0), -2);
        Due.is("marked()", x.marked(), 0);
        Due.is("the CODE is gone", x.wordOf(0, 0), -3);
        Due.is("MEMBERS", x.count(3), 0);
        Due.is("HOME", x.count(6), -1);
        Due.is("a build() like others", x.count(7), 2);
        x.lean(-1);
        Due.is("and one again", x.build(), 5);
        Due.is("WEIGHTS are 0", x.weight(0), 0);
    }

    private static void buildLeavesNoCode() {
        Due.part("promise 7: No CODE then");
        EvenWire x = Wires.spaced();
        x.code(1, 2);
        x.say(1, 1);
        x.write();
        Due.is("build() of the same BANS", x.build(), 5);
        Due.is("member(0)", x.member(0), -3);
        Due.is("wordOf(0, 0)", x.wordOf(0, 0), -3);
        Due.is("read(0, 0)", x.read(0, 0), -3);
        Due.is("write()", x.write(), -3);
        Due.is("tell()", x.tell(), -3);
        Due.is("MEMBERS", x.count(3), 0);
        Due.is("m", x.count(4), 0);
        Due.is("n", x.count(5), 0);
        Due.is("HOME", x.count(6), -1);
        Due.is("MESSAGE stays", x.count(0), 1);
        Due.is("PLATE stays", x.count(1), 2);
    }

    private static void buildOfHundredStates() {
        Due.part("Terms: its STATES; 100 at most: 100 are not too many");
        EvenWire x = Wires.told(0, 2, 5, "001011", "001001", "010010", "00111");
        Due.is("build()", x.build(), 100);
        Due.is("states()", x.states(), 100);
        Due.is("count(2)", x.count(2), 100);
        Due.is("the last one", x.weigh(99, 7), 0);
        Due.is("the last one", x.weight(99), 7);
        Due.is("none behind it", x.go(100, 0), -2);
        hundredAsWritten(0, 7, "0111", "101001", "011010");
        hundredAsWritten(0, 2, "001011", "001001", "010010", "00111");
        hundredAsWritten(0, -1, "1000", "110101", "010100", "100110");
        // here a STATE GOES to 99 by 1, and the next one to none
        hundredAsWritten(0, 4, "10100", "100010", "001101");
    }

    private static void hundredAsWritten(int d, int k, String... words) {
        EvenWire x = Wires.told(d, k, 5, words);
        SlowWire s = Wires.slow(d, k, 5, words);
        Due.is("build()", x.build(), 100);
        Due.is("in the second writing", s.states(), 100);
        for (int state = 0; state < s.states(); state++) {
            Due.is("go(" + state + ", 0)", x.go(state, 0), s.goes.get(state)[0]);
            Due.is("go(" + state + ", 1)", x.go(state, 1), s.goes.get(state)[1]);
        }
    }

    private static void buildOfMoreThanHundred() {
        Due.part("promise 7: FULL: more than 100");
        EvenWire x = Wires.told(0, 7, 5, "010001", "101010");
        Due.is("101", x.build(), -4);
        EvenWire y = Wires.told(0, 7, 5, TOO_MANY);
        Due.is("many more", y.build(), -4);
        EvenWire z = Wires.told(0, 7, 5);
        Due.holds("without WORDS", z.build() > 0);
    }

    private static void buildThatIsFullFirst() {
        Due.part("promise 7: FULL, no build() ahead");
        EvenWire x = Wires.told(0, 7, 5, TOO_MANY);
        Due.is("build()", x.build(), -4);
        Due.is("states()", x.states(), 0);
        Due.is("go(0, 0)", x.go(0, 0), -2);
        Due.is("mark(1)", x.mark(1), -3);
        Due.is("code(1, 1)", x.code(1, 1), -3);
        Due.is("check()", x.check(), -3);
        Due.is("one of the 40 all the same", x.count(7), 1);
        tellNone(x);
        Due.is("build()", x.build(), 1);
    }

    private static void buildThatIsFullKeepsAll() {
        Due.part("promise 7: FULL: THE WIRE stays, a CODE, too");
        EvenWire x = Wires.leaning(2);
        x.code(3, 4);
        x.weigh(2, 11);
        x.mark(12);
        x.say(9, 4);
        x.write();
        tellTooMany(x);
        Due.is("build()", x.build(), -4);
        Due.is("count(7)", x.count(7), 2);
        Due.is("states()", x.states(), 5);
        Due.is("go(1, 0)", x.go(1, 0), 3);
        Due.is("go(3, 0)", x.go(3, 0), -1);
        Due.is("first(4, 1)", x.first(4, 1), 3);
        Due.is("count(0, 4)", x.count(0, 4), 12);
        Due.is("ways(0, 0, 4)", x.ways(0, 0, 4), 6);
        Due.is("weight(2)", x.weight(2), 11);
        Due.is("marked()", x.marked(), 0);
        Due.is("member(1)", x.member(1), 1);
        Due.is("wordOf(1, 7)", x.wordOf(1, 7), 13);
        Due.is("read(1, 13)", x.read(1, 13), 7);
        Due.is("HOME", x.count(6), 1);
        Due.is("tell()", x.tell(), 6);
        Due.is("write()", x.write(), 9);
        Due.is("check()", x.check(), -1);
        Due.is("the BANS are as told", x.ban(2), 4);
    }

    private static void buildFortyTimes() {
        Due.part("promise 7: FULL: 40 such calls went ahead");
        EvenWire x = new EvenWire();
        for (int call = 1; call <= 40; call++) {
            boolean tooMany = call % 3 == 0;
            if (tooMany) {
                tellTooMany(x);
            } else {
                tellNone(x);
                x.lean(call % 3);
            }
            Due.is("build() no. " + call, x.build(), tooMany ? -4 : 2 * (call % 3) + 1);
            Due.is("count(7)", x.count(7), call);
        }
        x.code(1, 2);
        x.weigh(0, 3);
        x.mark(12);
        tellNone(x);
        for (int more = 41; more <= 43; more++) {
            Due.is("build() no. " + more, x.build(), -4);
            Due.is("40 at most", x.count(7), 40);
        }
        Due.is("THE WIRE stays", x.states(), 3);
        Due.is("a CODE, too", x.count(3), 3);
        Due.is("WEIGHTS", x.weight(0), 3);
        Due.is("its WORD", x.wordOf(0, 1), 2);
        tellTooMany(x);
        Due.is("too many as well", x.build(), -4);
        Due.is("40 at most", x.count(7), 40);
        EvenWire y = new EvenWire();
        tellTooMany(y);
        for (int call = 1; call <= 40; call++) {
            Due.is("FULL no. " + call, y.build(), -4);
        }
        tellNone(y);
        Due.is("40 FULL ones went ahead", y.build(), -4);
        Due.is("no WIRE ever", y.states(), 0);
    }

    private static void statesAheadOfBuild() {
        Due.part("promise 8: 0 before any build()");
        EvenWire x = Wires.told(1, 3, 2, "101");
        Due.is("states()", x.states(), 0);
        Due.is("count(2)", x.count(2), 0);
        tellNone(x);
        x.build();
        Due.is("one", x.states(), 1);
        x.lean(5);
        x.build();
        Due.is("eleven", x.states(), 11);
        x.lean(0);
        x.build();
        Due.is("none", x.states(), 0);
    }

    private static void goEdges() {
        Due.part("promise 9: BAD; NONE");
        EvenWire x = Wires.leaning(2);
        int[][] due = {{1, 2}, {3, 0}, {0, 4}, {-1, 1}, {2, -1}};
        for (int state = -2; state <= 7; state++) {
            for (int bit = -2; bit <= 3; bit++) {
                boolean fits = state >= 0 && state < 5 && bit >= 0 && bit <= 1;
                Due.is("go(" + state + ", " + bit + ")", x.go(state, bit), fits ? due[state][bit] : -2);
            }
        }
        int[] far = {LEAST, 99, 100, 200, 1 << 30, MOST};
        for (int one : far) {
            Due.is("go(" + one + ", 0)", x.go(one, 0), -2);
            Due.is("go(0, " + one + ")", x.go(0, one), -2);
        }
        Due.is("BAD, though the STATE goes nowhere", x.go(3, 2), -2);
    }

    private static void walkEdges() {
        Due.part("promise 10: BAD: also a row that is none of n");
        EvenWire x = Wires.free();
        for (int n : NO_LENGTHS) {
            Due.is("walk(0, 0, " + n + ")", x.walk(0, 0, n), -2);
            Due.is("walk(0, 1, " + n + ")", x.walk(0, 1, n), -2);
        }
        int[] states = {LEAST, -1, 1, 2, 99, 100, MOST};
        for (int state : states) {
            Due.is("walk(" + state + ", 0, 0)", x.walk(state, 0, 0), -2);
            Due.is("walk(" + state + ", 1, 1)", x.walk(state, 1, 1), -2);
        }
        Due.is("no bits from any STATE", Wires.leaning(2).walk(4, 0, 0), 4);
    }

    private static void walkOfEachLength() {
        Due.part("Terms: a row of n bits (0 to 60) is told as a long");
        EvenWire x = Wires.free();
        for (int n = 0; n <= 60; n++) {
            Due.is("the least of " + n, x.walk(0, 0, n), 0);
            Due.is("the greatest of " + n, x.walk(0, (1L << n) - 1, n), 0);
            Due.is("one more of " + n, x.walk(0, 1L << n, n), -2);
            Due.is("below 0 of " + n, x.walk(0, -1, n), -2);
            Due.is("the least long of " + n, x.walk(0, Long.MIN_VALUE, n), -2);
            Due.is("the greatest long of " + n, x.walk(0, Long.MAX_VALUE, n), -2);
        }
    }

    private static void walkThatLeadsNowhere() {
        Due.part("promise 10: NONE");
        EvenWire x = Wires.leaning(2);
        String even = "10".repeat(30);
        Due.is("60 bits", Wires.lead(x, even), 0);
        Due.is("the first two bits lead nowhere", x.walk(4, Wires.bits(even), 60), -1);
        Due.is("the last bit leads nowhere", Wires.lead(x, even.substring(0, 57) + "111"), -1);
        Due.is("the last bit but one", Wires.lead(x, even.substring(0, 56) + "1110"), -1);
        Due.is("it comes back too late", Wires.lead(x, "111000"), -1);
        Due.is("BAD ahead of NONE", x.walk(4, 1L << 6, 6), -2);
    }

    private static void firstEdges() {
        Due.part("promise 11: how many bits (what = 0), that ROW (1); BAD");
        EvenWire x = Wires.leaning(2);
        int[] bits = {0, 1, 1, 2, 2};
        int[] rows = {0, 0, 1, 0, 3};
        for (int state = -2; state <= 6; state++) {
            boolean there = state >= 0 && state < 5;
            for (int what = -2; what <= 3; what++) {
                long due = !there || what < 0 || what > 1 ? -2 : what == 0 ? bits[state] : rows[state];
                Due.is("first(" + state + ", " + what + ")", x.first(state, what), due);
            }
        }
        int[] far = {LEAST, 99, 100, MOST};
        for (int one : far) {
            Due.is("first(" + one + ", 0)", x.first(one, 0), -2);
            Due.is("first(" + one + ", 1)", x.first(one, 1), -2);
            Due.is("first(0, " + one + ")", x.first(0, one), -2);
        }
    }

    /**
     * All BANS were gone through once (NOTES.md): no first ROW has more than 35 bits, so NONE never comes; these have 35.
     */
    private static void firstOfSixtyBits() {
        Due.part("promise 11: that ROW, if it has 60 at most");
        String[][] words = {{"00100", "00111", "001011", "010010"}, {"00111", "001001", "001011", "010010"}};
        for (String[] four : words) {
            EvenWire x = Wires.built(0, 2, 5, four);
            SlowWire s = Wires.slow(0, 2, 5, four);
            int longest = 0;
            for (int state = 0; state < x.states(); state++) {
                String row = s.firsts.get(state);
                longest = Math.max(longest, row.length());
                Due.is("bits of STATE " + state, x.first(state, 0), row.length());
                Due.is("the ROW of STATE " + state, x.first(state, 1), Wires.bits(row));
            }
            Due.is("the longest", longest, 35);
        }
    }

    private static void countEdges() {
        Due.part("promise 12: n bits (0 to 60); BAD");
        EvenWire x = Wires.spaced();
        for (int n : NO_LENGTHS) {
            Due.is("count(0, " + n + ")", x.count(0, n), -2);
        }
        int[] states = {LEAST, -1, 5, 6, 99, 100, MOST};
        for (int state : states) {
            Due.is("count(" + state + ", 0)", x.count(state, 0), -2);
            Due.is("count(" + state + ", 60)", x.count(state, 60), -2);
        }
        for (int state = 0; state < 5; state++) {
            Due.is("no bits: one row", x.count(state, 0), 1);
        }
        Due.is("one bit from 1", x.count(2, 1), 1);
        Due.is("one bit from 0", x.count(1, 1), 2);
    }

    private static void countOfEachLength() {
        Due.part("promise 12: how many rows of n bits lead from a STATE anywhere");
        EvenWire x = Wires.free();
        EvenWire y = Wires.built(0, 0, -1);
        EvenWire z = Wires.leaning(1);
        for (int n = 0; n <= 60; n++) {
            Due.is("any row of " + n, x.count(0, n), 1L << n);
            Due.is("1s alone of " + n, y.count(0, n), 1);
            Due.is("LEAN 1 of " + n, z.count(0, n), 1L << (n + 1) / 2);
            Due.is("LEAN 1 of " + n + ", from 1", z.count(2, n), 1L << n / 2);
        }
    }

    private static void numberEdges() {
        Due.part("promise 13: BAD");
        EvenWire x = Wires.free();
        for (int n : NO_LENGTHS) {
            Due.is("number(0, 0, " + n + ")", x.number(0, 0, n), -2);
            Due.is("number(0, 1, " + n + ")", x.number(0, 1, n), -2);
        }
        int[] states = {LEAST, -1, 1, 99, 100, MOST};
        for (int state : states) {
            Due.is("number(" + state + ", 0, 0)", x.number(state, 0, 0), -2);
        }
    }

    private static void numberOfEachLength() {
        Due.part("promise 13: how many of these are less than a row");
        EvenWire x = Wires.free();
        EvenWire y = Wires.leaning(1);
        for (int n = 0; n <= 60; n++) {
            Due.is("the least of " + n, x.number(0, 0, n), 0);
            Due.is("the greatest of " + n, x.number(0, (1L << n) - 1, n), (1L << n) - 1);
            Due.is("one more of " + n, x.number(0, 1L << n, n), -2);
            Due.is("below 0 of " + n, x.number(0, -1, n), -2);
            String most = "10".repeat(30).substring(0, n);
            Due.is("LEAN 1: the greatest of " + n, y.number(0, Wires.bits(most), n), y.count(0, n) - 1);
        }
        Due.is("the least long", x.number(0, Long.MIN_VALUE, 60), -2);
        Due.is("the greatest long", x.number(0, Long.MAX_VALUE, 60), -2);
    }

    private static void numberThatLeadsNowhere() {
        Due.part("promise 13: NONE: it leads nowhere");
        EvenWire x = Wires.leaning(2);
        Due.is("at the first bit", x.number(3, 0, 1), -1);
        Due.is("at the first of 60", x.number(4, 1L << 59, 60), -1);
        Due.is("at the last of 60", x.number(0, Wires.bits("10".repeat(28) + "1110"), 60), -1);
        Due.is("greater than all", x.number(0, (1L << 60) - 1, 60), -1);
        Due.is("less than all", x.number(0, 0, 60), -1);
        Due.is("no bits lead on", x.number(3, 0, 0), 0);
    }

    private static void rowEdges() {
        Due.part("promise 14: BAD: also below 0");
        EvenWire x = Wires.free();
        for (int n : NO_LENGTHS) {
            Due.is("row(0, 0, " + n + ")", x.row(0, 0, n), -2);
        }
        int[] states = {LEAST, -1, 1, 99, 100, MOST};
        for (int state : states) {
            Due.is("row(" + state + ", 0, 0)", x.row(state, 0, 0), -2);
        }
        for (int n = 0; n <= 60; n += 12) {
            Due.is("row(0, -1, " + n + ")", x.row(0, -1, n), -2);
            Due.is("row(0, least, " + n + ")", x.row(0, Long.MIN_VALUE, n), -2);
        }
    }

    private static void rowOfEachLength() {
        Due.part("promise 14: the one of which so many are less");
        EvenWire x = Wires.free();
        EvenWire y = Wires.leaning(1);
        for (int n = 0; n <= 60; n++) {
            Due.is("the first of " + n, x.row(0, 0, n), 0);
            Due.is("the last of " + n, x.row(0, (1L << n) - 1, n), (1L << n) - 1);
            Due.is("one more of " + n, x.row(0, 1L << n, n), -1);
            Due.is("LEAN 1: the first of " + n, y.row(0, 0, n), Wires.bits("01".repeat(30).substring(0, n)));
            Due.is("LEAN 1: the last of " + n, y.row(0, (1L << (n + 1) / 2) - 1, n), Wires.bits("10".repeat(30).substring(0, n)));
            Due.is("LEAN 1: one more of " + n, y.row(0, 1L << (n + 1) / 2, n), -1);
        }
    }

    private static void rowThatIsNotThere() {
        Due.part("promise 14: NONE: there is none");
        EvenWire x = Wires.spaced();
        Due.is("as many as all", x.row(0, x.count(0, 60), 60), -1);
        Due.is("the greatest long", x.row(0, Long.MAX_VALUE, 60), -1);
        Due.is("no bits", x.row(4, 1, 0), -1);
        Due.is("one bit from 1", x.row(2, 1, 1), -1);
        Due.is("the last", x.number(0, x.row(0, x.count(0, 60) - 1, 60), 60), x.count(0, 60) - 1);
    }

    private static void waysEdges() {
        Due.part("promise 15: WAYS of n bits (0 to 12); BAD");
        EvenWire x = Wires.leaning(2);
        int[] lengths = {LEAST, -2, -1, 13, 14, 60, MOST};
        for (int n : lengths) {
            Due.is("ways(0, 0, " + n + ")", x.ways(0, 0, n), -2);
        }
        int[] states = {LEAST, -1, 5, 6, 99, 100, MOST};
        for (int state : states) {
            Due.is("ways(" + state + ", 0, 0)", x.ways(state, 0, 0), -2);
            Due.is("ways(0, " + state + ", 0)", x.ways(0, state, 0), -2);
            Due.is("ways(" + state + ", " + state + ", 0)", x.ways(state, state, 0), -2);
        }
    }

    private static void waysOfNoBits() {
        Due.part("promise 15: WAYS of 0 bits");
        EvenWire x = Wires.leaning(2);
        for (int i = 0; i < 5; i++) {
            for (int j = 0; j < 5; j++) {
                Due.is("ways(" + i + ", " + j + ", 0)", x.ways(i, j, 0), i == j ? 1 : 0);
                int one = (x.go(i, 0) == j ? 1 : 0) + (x.go(i, 1) == j ? 1 : 0);
                Due.is("ways(" + i + ", " + j + ", 1)", x.ways(i, j, 1), one);
            }
        }
        Due.is("both bits to one STATE", Wires.free().ways(0, 0, 1), 2);
    }

    private static void waysOfTwelveBits() {
        Due.part("promise 15: WAYS of 12 bits");
        Due.is("all rows", Wires.free().ways(0, 0, 12), 4096);
        EvenWire x = Wires.leaning(5);
        long sum = 0;
        for (int j = 0; j < 11; j++) {
            sum += x.ways(0, j, 12);
        }
        Due.is("to all STATES", sum, x.count(0, 12));
        EvenWire y = Wires.leaning(1);
        // from LEAN 0 each pair of bits is 01 or 10
        Due.is("LEAN 1", y.ways(0, 0, 12), 64);
        Due.is("an odd LEAN", y.ways(0, 1, 12), 0);
    }

    private static void markEdges() {
        Due.part("promise 16: 1 to most bits (1 to 12); BAD; NONE: there is none");
        EvenWire x = Wires.free();
        int[] wrong = {LEAST, -12, -1, 0, 13, 14, 60, MOST};
        for (int most : wrong) {
            Due.is("mark(" + most + ")", x.mark(most), -2);
        }
        for (int most = 1; most <= 12; most++) {
            Due.is("mark(" + most + ")", x.mark(most), -1);
        }
        EvenWire y = Wires.built(0, 0, -1);
        Due.is("a word of one bit", y.mark(1), 1);
        Due.is("it is 0", y.marked(), 0);
        EvenWire z = Wires.built(0, -1, -1, "1");
        Due.is("a word of one bit", z.mark(1), 1);
        Due.is("it is 1", z.marked(), 1);
    }

    private static void markIsBadAheadOfNot() {
        Due.part("promise 16: BAD; NOT: there are no STATES");
        EvenWire[] stateless = {new EvenWire(), Wires.dumb()};
        for (EvenWire x : stateless) {
            for (int most = -1; most <= 14; most++) {
                Due.is("mark(" + most + ")", x.mark(most), most >= 1 && most <= 12 ? -3 : -2);
            }
            Due.is("marked()", x.marked(), 0);
        }
    }

    private static void markOfMostBits() {
        Due.part("promise 16: of most bits, of one less");
        for (int l = 1; l <= 5; l++) {
            for (int most = 1; most <= 12; most++) {
                EvenWire x = Wires.leaning(l);
                int due = most >= 2 * l + 1 ? 2 * l + 1 : -1;
                Due.is("LEAN " + l + ", mark(" + most + ")", x.mark(most), due);
                Due.is("0s alone", x.marked(), 0);
            }
        }
        for (int k = 0; k <= 7; k++) {
            EvenWire x = Wires.built(0, k, -1);
            if (k > 0) {
                Due.is("k = " + k + ", mark(k)", x.mark(k), -1);
            }
            Due.is("k = " + k + ", mark(k + 1)", x.mark(k + 1), k + 1);
        }
        for (int n = 2; n <= 6; n++) {
            EvenWire x = Wires.built(0, -1, -1, Wires.ones(n));
            Due.is("1s, one less", x.mark(n - 1), -1);
            Due.is("1s", x.mark(n), n);
            Due.is("1s", x.marked(), (1 << n) - 1);
        }
    }

    private static void markTakesTheLeast() {
        Due.part("promise 16: the shortest, of as long ones the least");
        EvenWire x = Wires.built(0, -1, -1, "111", "0000");
        Due.is("the shortest", x.mark(12), 3);
        Due.is("though 0000 is less as a number", x.marked(), 7);
        EvenWire y = Wires.built(0, -1, -1, "110", "011", "101");
        Due.is("the least", y.mark(12), 3);
        Due.is("011", y.marked(), 3);
        EvenWire z = Wires.built(0, -1, -1, "00", "11");
        Due.is("the least", z.mark(12), 2);
        Due.is("00", z.marked(), 0);
    }

    /** Here some words can end in STATES 64 and above alone, or can be gone on with from these alone. */
    private static void markBehindStateSixtyFour() {
        Due.part("promise 16: of many STATES");
        String[][] words = {{"00110", "001001", "010001", "100100"}, {"00011", "101101", "110000", "110100"},
            {"00010", "101011", "110000", "110100"}, {"01001", "10001", "000101", "001110"}};
        int[] leans = {4, 3, 3, 4};
        for (int i = 0; i < words.length; i++) {
            EvenWire x = Wires.built(0, 7, leans[i], words[i]);
            SlowWire s = Wires.slow(0, 7, leans[i], words[i]);
            Due.holds("above 64", x.states() > 64 && x.states() == s.states());
            for (int most = 1; most <= 12; most++) {
                Due.is("mark(" + most + ")", x.mark(most), s.mark(most));
                Due.is("marked()", x.marked(), s.marked);
            }
        }
        EvenWire y = Wires.built(0, 7, 4, words[0]);
        Due.is("the told word of 5 bits", y.mark(12), 5);
        Due.is("00110", y.marked(), 6);
    }

    /** What was found on one WIRE says nothing of the next one, be it greater or lesser. */
    private static void markOfOneWireBehindAnother() {
        Due.part("promise 16: behind another build()");
        EvenWire x = new EvenWire();
        SlowWire s = new SlowWire();
        int[] leans = {4, 1, 5, 2, 4, 3, -1, 5};
        String[][] words = {{"00110", "001001", "010001", "100100"}, {}, {"001011", "001001", "010010", "00111"}, {"111"},
            {"01001", "10001", "000101", "001110"}, {"0000", "1111"}, {"11", "000"}, {"101101"}};
        for (int i = 0; i < leans.length; i++) {
            x.lean(leans[i]);
            s.lean = leans[i];
            x.clearWords();
            s.words.clear();
            for (String word : words[i]) {
                x.word((int) Wires.bits(word), word.length());
                s.words.add(word);
            }
            Due.is("build() no. " + (i + 1), x.build(), s.build());
            for (int most = 3; most <= 12; most += 3) {
                Due.is("WIRE no. " + (i + 1) + ", mark(" + most + ")", x.mark(most), s.mark(most));
                Due.is("WIRE no. " + (i + 1) + ", marked()", x.marked(), s.marked);
            }
        }
    }

    private static void markedWithoutAndBehindBuild() {
        Due.part("promise 17: since the latest build(); 0 without");
        EvenWire x = Wires.spaced();
        Due.is("no mark() yet", x.marked(), 0);
        x.mark(2);
        Due.is("11", x.marked(), 3);
        x.build();
        Due.is("behind a build() of the same BANS", x.marked(), 0);
        x.mark(1);
        Due.is("NONE", x.marked(), 0);
        x.mark(2);
        x.lean(0);
        x.build();
        Due.is("behind a build() of no STATES", x.marked(), 0);
    }

    private static void markedStaysBehindNone() {
        Due.part("promise 17: the word that mark() found last");
        EvenWire x = Wires.spaced();
        x.mark(12);
        int[] more = {1, 0, 13, -1, LEAST, MOST};
        for (int most : more) {
            x.mark(most);
            Due.is("behind mark(" + most + ")", x.marked(), 3);
        }
        x.code(1, 2);
        x.best(1, 2, 5);
        Due.is("behind other calls", x.marked(), 3);
    }

    private static void markedStaysBehindFull() {
        Due.part("promise 17: the latest build() that was not FULL");
        EvenWire x = Wires.spaced();
        x.mark(12);
        tellTooMany(x);
        x.build();
        Due.is("more than 100 STATES", x.marked(), 3);
        x.runs(1, 3);
        x.lean(-1);
        x.clearWords();
        for (int call = 3; call <= 40; call++) {
            x.build();
        }
        Due.is("behind others", x.marked(), 0);
        x.mark(12);
        Due.is("the 41st", x.build(), -4);
        Due.is("40 went ahead", x.marked(), 3);
    }
}
