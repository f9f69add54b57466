import java.util.Arrays;

/** Promises 26 to 38 and the Terms of MESSAGE and PLATE: a test for each sentence that names a boundary. */
public final class PlateEdgesTest {
    private static final int LEAST = Wires.LEAST;
    private static final int MOST = Wires.MOST;
    private static final int[] NO_LENGTHS = {LEAST, -64, -4, -1, 61, 62, 63, 64, 65, 124, 128, MOST};
    /** 60 bits, no part of them like another one. */
    private static final String MIXED = "110100011101011000001111010010101110111001001100001011011111";

    private PlateEdgesTest() {
    }

    public static void main(String[] args) {
        sayTakesWhatIsTold();
        sayOfEachLength();
        sayUpToTheLimit();
        sayIsBadAheadOfFull();
        hushEdges();
        messageEdges();
        writeWithoutCode();
        writeOfNoMessage();
        writeFillsTheLastPiece();
        writeUpToTheLimit();
        writeCountsTheLead();
        writeLeavesNothingOfOld();
        tellWithoutCode();
        tellOfNoBits();
        tellUpToTheLimit();
        tellOfFaultAndTooMuch();
        tellOfNoLead();
        tellOfAnotherLead();
        tellOfPiecesTooShort();
        tellOfNoWord();
        tellTellsTheFirstFault();
        putTakesWhatIsTold();
        putOfEachLength();
        putUpToTheLimit();
        putIsBadAheadOfFull();
        cutEdges();
        spoilEdges();
        plateEdges();
        checkWithoutStates();
        checkOfNoBits();
        checkOfFirstAndLast();
        checkOfARowThatEnds();
        shapeTakesWhatIsTold();
        shapeOfNoBits();
        shapeOfFewBits();
        shapeOfSixHundred();
        countTakesWhatIsTold();
        countOfNoCode();
        countOfBuilds();
        digestOfNewObject();
        digestWraps();
        digestOfAll();
        theLastOfAllCalls();
        Due.end();
    }

    private static String mixed(int n) {
        return MIXED.repeat(10).substring(0, n);
    }

    /** Free, with so many bits on the PLATE and in the MESSAGE. */
    private static EvenWire filled(int said, int put) {
        EvenWire x = Wires.free();
        Wires.sayAll(x, mixed(said));
        Wires.putAll(x, mixed(put));
        return x;
    }

    /** LEAN 2 with the CODE of 3 by 4: HOME is STATE 1, THE LEAD is 0, MEMBERS are the LEANS -1 and 1. */
    private static EvenWire led() {
        EvenWire x = Wires.leaning(2);
        x.code(3, 4);
        return x;
    }

    private static void sayTakesWhatIsTold() {
        Due.part("promise 26: n bits (0 to 60); BAD");
        EvenWire x = new EvenWire();
        x.say(1, 1);
        for (int n : NO_LENGTHS) {
            Due.is("say(0, " + n + ")", x.say(0, n), -2);
            Due.is("say(1, " + n + ")", x.say(1, n), -2);
        }
        for (int n = 0; n <= 60; n += 6) {
            for (long bits : Wires.noRowsOf(n)) {
                Due.is("say(" + bits + ", " + n + ")", x.say(bits, n), -2);
            }
        }
        Due.is("nothing came", x.hush(), 1);
    }

    private static void sayOfEachLength() {
        Due.part("promise 26: n bits come behind the MESSAGE, the first the highest");
        EvenWire x = new EvenWire();
        for (int n = 0; n <= 60; n++) {
            Due.is("the greatest of " + n, x.say((1L << n) - 1, n), n);
            Due.is("one more", x.say(1L << n, n), -2);
            Due.is("the least of " + n, x.say(0, n), 2 * n);
            Due.is("the last 1", x.message(n - 1), n > 0 ? 1 : -2);
            Due.is("the first 0", x.message(n), n > 0 ? 0 : -2);
            Due.is("hush()", x.hush(), 2 * n);
        }
        Wires.sayAll(x, MIXED);
        Due.holds("60 bits in their order", Wires.message(x).equals(MIXED));
    }

    private static void sayUpToTheLimit() {
        Due.part("Terms: MESSAGE: up to 240 bits; promise 26: FULL");
        EvenWire x = new EvenWire();
        for (int n = 60; n <= 240; n += 60) {
            Due.is("60 more", x.say(Wires.bits(MIXED), 60), n);
        }
        for (int n = 1; n <= 60; n++) {
            Due.is(n + " behind 240", x.say(0, n), -4);
        }
        Due.is("none behind 240", x.say(0, 0), 240);
        Due.holds("the MESSAGE stays", Wires.message(x).equals(mixed(240)));
        for (int n = 1; n <= 60; n++) {
            EvenWire y = new EvenWire();
            Wires.sayAll(y, mixed(240 - n));
            if (n < 60) {
                Due.is("one too many", y.say(0, n + 1), -4);
            }
            Due.is("none came", y.count(0), 240 - n);
            Due.is("just as many", y.say(1, n), 240);
            Due.is("the last", y.message(239), 1);
            Due.is("no more", y.say(0, 1), -4);
        }
    }

    private static void sayIsBadAheadOfFull() {
        Due.part("Terms: BAD ahead of FULL (say)");
        EvenWire x = filled(240, 0);
        Due.is("say(2, 1)", x.say(2, 1), -2);
        Due.is("say(0, 61)", x.say(0, 61), -2);
        Due.is("say(-1, 60)", x.say(-1, 60), -2);
        Due.is("say(1, 0)", x.say(1, 0), -2);
        Due.is("say(0, -1)", x.say(0, -1), -2);
    }

    private static void hushEdges() {
        Due.part("promise 27: the MESSAGE is empty: how many bits it had");
        EvenWire x = filled(240, 5);
        Due.is("240", x.hush(), 240);
        Due.is("none", x.hush(), 0);
        Due.is("empty", x.count(0), 0);
        Due.is("message(0)", x.message(0), -2);
        Due.is("room again", x.say(0, 60), 60);
        Due.is("the PLATE stays", x.count(1), 5);
        Due.is("none at first", new EvenWire().hush(), 0);
    }

    private static void messageEdges() {
        Due.part("promise 28: BAD");
        int[] sizes = {0, 1, 60, 240};
        for (int size : sizes) {
            EvenWire x = filled(size, 600);
            int[] wrong = {LEAST, -1, size, size + 1, 240, 599, 600, MOST};
            for (int i : wrong) {
                Due.is("message(" + i + ") of " + size, x.message(i), -2);
            }
            for (int i = 0; i < size; i++) {
                Due.is("message(" + i + ") of " + size, x.message(i), mixed(size).charAt(i) - '0');
            }
        }
    }

    private static void writeWithoutCode() {
        Due.part("promise 29: NOT: no CODE");
        EvenWire none = filled(3, 5);
        none.code(1, 1);
        none.code(2, 1);
        EvenWire[] codeless = {new EvenWire(), filled(240, 600), Wires.dumb(), none};
        int[] sizes = {0, 600, 0, 5};
        for (int i = 0; i < codeless.length; i++) {
            Due.is("write()", codeless[i].write(), -3);
            Due.is("the PLATE stays", codeless[i].count(1), sizes[i]);
        }
    }

    private static void writeOfNoMessage() {
        Due.part("promise 29: of an empty MESSAGE");
        EvenWire x = filled(0, 600);
        x.code(8, 12);
        Due.is("without a LEAD", x.write(), 0);
        Due.is("the PLATE is empty", x.count(1), 0);
        EvenWire y = led();
        y.put(7, 3);
        Due.is("THE LEAD alone", y.write(), 1);
        Due.holds("it is 0", Wires.plate(y).equals("0"));
    }

    /** The CODE of m by m without BANS has all rows as its WORDS, so the PLATE is the MESSAGE filled up. */
    private static void writeFillsTheLastPiece() {
        Due.part("Terms: pieces of m bits (the last one filled up with 0s at its end)");
        for (int m = 1; m <= 8; m++) {
            for (int n = 0; n <= 2 * m; n++) {
                EvenWire x = filled(0, 0);
                x.code(m, m);
                Wires.sayAll(x, Wires.ones(n));
                String due = Wires.ones(n) + Wires.zeros((m - n % m) % m);
                Due.is(n + " bits in pieces of " + m, x.write(), due.length());
                Due.holds("the PLATE is " + due, Wires.plate(x).equals(due));
                Due.is("the MESSAGE stays", x.count(0), n);
            }
        }
        EvenWire y = filled(0, 0);
        y.code(2, 3);
        y.say(7, 3);
        y.write();
        Due.holds("11, and 1 filled up to 10", Wires.plate(y).equals("011" + "010"));
    }

    private static void writeUpToTheLimit() {
        Due.part("Terms: PLATE: up to 600 bits; promise 29: FULL: above 600 (the PLATE stays)");
        int[][] codes = {{1, 3, 200}, {2, 12, 100}, {3, 12, 150}, {4, 12, 200}, {4, 10, 240}, {5, 12, 240}, {8, 12, 240}, {1, 12, 50},
            {2, 5, 240}, {1, 2, 240}};
        for (int[] code : codes) {
            EvenWire x = filled(code[2], 7);
            x.code(code[0], code[1]);
            int pieces = (code[2] + code[0] - 1) / code[0];
            Due.is("as much as fits of " + code[0] + " by " + code[1], x.write(), pieces * code[1]);
            if (code[2] < 240) {
                x.say(1, 1);
                x.cut(7);
                String was = Wires.plate(x);
                Due.is("one bit more", x.write(), -4);
                Due.holds("the PLATE stays", Wires.plate(x).equals(was));
                Due.is("the MESSAGE stays", x.count(0), code[2] + 1);
            }
        }
    }

    private static void writeCountsTheLead() {
        Due.part("promise 29: THE LEAD is of the 600 bits");
        EvenWire x = Wires.built(0, 2, 2, "101001", "000110", "110011", "100101");
        Due.is("code(1, 4)", x.code(1, 4), 10);
        Due.is("a LEAD of one bit", x.first(x.count(6), 0), 1);
        Wires.sayAll(x, mixed(149));
        Due.is("1 and 149 times 4", x.write(), 597);
        x.say(0, 1);
        Due.is("1 and 150 times 4", x.write(), -4);
        Due.is("the PLATE stays", x.count(1), 597);
        EvenWire y = Wires.leaning(2);
        y.code(1, 4);
        Wires.sayAll(y, mixed(150));
        Due.is("150 times 4 without a LEAD", y.write(), 600);
        y.say(0, 1);
        Due.is("151 times 4", y.write(), -4);
    }

    private static void writeLeavesNothingOfOld() {
        Due.part("promise 29: that is the PLATE then");
        EvenWire x = filled(2, 600);
        x.code(1, 1);
        Due.is("write()", x.write(), 2);
        Due.is("plate(0)", x.plate(0), 1);
        Due.is("plate(1)", x.plate(1), 1);
        Due.is("plate(2)", x.plate(2), -2);
        Due.is("put() comes behind it", x.put(0, 1), 3);
        Due.is("once more", x.write(), 2);
    }

    private static void tellWithoutCode() {
        Due.part("promise 30: NOT: no CODE");
        EvenWire none = filled(3, 5);
        none.code(2, 1);
        EvenWire[] codeless = {new EvenWire(), filled(240, 600), Wires.dumb(), none};
        int[] sizes = {0, 240, 0, 3};
        for (int i = 0; i < codeless.length; i++) {
            Due.is("tell()", codeless[i].tell(), -3);
            Due.is("the MESSAGE stays", codeless[i].count(0), sizes[i]);
        }
    }

    private static void tellOfNoBits() {
        Due.part("promise 30: of an empty PLATE");
        EvenWire x = filled(9, 0);
        x.code(8, 12);
        Due.is("without a LEAD", x.tell(), 0);
        Due.is("the MESSAGE is empty", x.count(0), 0);
        EvenWire y = led();
        y.say(9, 4);
        Due.is("no bit of THE LEAD is there", y.tell(), -100);
        Due.is("the MESSAGE stays", y.count(0), 4);
        y.put(0, 1);
        Due.is("THE LEAD alone", y.tell(), 0);
        Due.is("the MESSAGE is empty", y.count(0), 0);
    }

    /** The CODE of m by m without BANS has all rows as its WORDS. */
    private static void tellUpToTheLimit() {
        Due.part("Terms: MESSAGE: up to 240 bits; promise 30: FULL: above 240");
        for (int m = 1; m <= 8; m++) {
            int pieces = 240 / m;
            EvenWire x = filled(5, pieces * m);
            x.code(m, m);
            Due.is(pieces + " pieces of " + m, x.tell(), pieces * m);
            Due.holds("as they stand", Wires.message(x).equals(mixed(pieces * m)));
            EvenWire y = filled(5, pieces * m + m);
            y.code(m, m);
            Due.is("one piece of " + m + " more", y.tell(), -4);
            Due.is("the MESSAGE stays", y.count(0), 5);
            Due.is("the PLATE stays", y.count(1), pieces * m + m);
            EvenWire z = filled(5, 600);
            z.code(m, m);
            Due.is("600 bits", z.tell(), m == 7 ? -100 - 595 : -4);
        }
        EvenWire u = Wires.free();
        u.code(4, 10);
        Wires.putAll(u, "0000001011".repeat(60));
        Due.is("600 bits of 240", u.tell(), 240);
        EvenWire v = Wires.free();
        v.code(5, 12);
        Wires.putAll(v, "000000010111".repeat(48));
        Due.is("576 bits of 240", v.tell(), 240);
        v.put(0, 12);
        Due.is("588 bits of 245", v.tell(), -4);
    }

    /** With a FAULT there is no MESSAGE that could be above 240. */
    private static void tellOfFaultAndTooMuch() {
        Due.part("promise 30: a FAULT behind more than 240 bits");
        EvenWire x = filled(5, 249);
        x.code(8, 8);
        Due.is("31 pieces and one bit", x.tell(), -100 - 248);
        Due.is("the MESSAGE stays", x.count(0), 5);
        x.cut(248);
        Due.is("31 pieces", x.tell(), -4);
        x.cut(241);
        Due.is("30 pieces and one bit", x.tell(), -100 - 240);
        x.cut(240);
        Due.is("30 pieces", x.tell(), 240);
    }

    private static void tellOfNoLead() {
        Due.part("Terms: THE LEAD that is not there: how many bits there are");
        EvenWire x = led();
        Due.is("0 bits", x.tell(), -100);
        EvenWire y = Wires.leaning(2);
        y.code(2, 4);
        Due.is("0 bits, and no LEAD", y.tell(), 0);
    }

    private static void tellOfAnotherLead() {
        Due.part("Terms: the place of the first bit of THE LEAD that is another one");
        EvenWire x = led();
        x.say(5, 3);
        x.write();
        x.spoil(0);
        Due.is("tell()", x.tell(), -100);
        x.cut(1);
        Due.is("THE LEAD alone, another one", x.tell(), -100);
        EvenWire y = Wires.built(0, 6, 4, "01111", "0110", "010");
        y.code(2, 6);
        y.put(0, 1);
        Due.is("0 where 1 leads", y.tell(), -100);
        y.spoil(0);
        Due.is("1", y.tell(), 0);
    }

    private static void tellOfPiecesTooShort() {
        Due.part("Terms: the place where a piece of n bits begins that are fewer than n bits");
        EvenWire x = led();
        x.say(Wires.bits("110101"), 6);
        Due.is("write()", x.write(), 9);
        String plate = Wires.plate(x);
        int[] due = {-100, 0, -101, -101, -101, 3, -105, -105, -105, 6};
        for (int n = 9; n >= 0; n--) {
            x.cut(n);
            Due.is("tell() of " + n + " bits of " + plate, x.tell(), due[n]);
        }
        EvenWire y = Wires.free();
        y.code(1, 12);
        for (int n = 0; n <= 36; n++) {
            Due.is("tell() of " + n + " 0s", y.tell(), n % 12 == 0 ? n / 12 : -100 - n / 12 * 12);
            y.put(0, 1);
        }
    }

    /** What tell() has to say stands in read(), piece by piece. */
    private static void tellOfNoWord() {
        Due.part("Terms: the place where a piece of n bits begins that is no WORD there");
        EvenWire x = led();
        x.say(Wires.bits("110101001"), 9);
        x.write();
        for (int i = 0; i < 13; i++) {
            x.spoil(i);
            String plate = Wires.plate(x);
            int due = plate.charAt(0) == '0' ? 9 : -100;
            for (int at = 1; at < 13 && due > 0; at += 4) {
                int v = x.read(Wires.lead(x, plate.substring(0, at)), (int) Wires.bits(plate.substring(at, at + 4)));
                due = v < 0 ? -100 - at : due;
            }
            Due.is("tell() of " + plate, x.tell(), due);
            x.spoil(i);
        }
        EvenWire y = Wires.free();
        y.code(1, 2);
        y.put(Wires.bits("0001"), 4);
        Due.is("two WORDS", y.tell(), 2);
        y.put(Wires.bits("10"), 2);
        Due.is("a row of which two are less", y.tell(), -104);
        EvenWire z = Wires.spaced();
        z.code(1, 2);
        z.put(Wires.bits("0000"), 4);
        Due.is("leads nowhere, from 00 by 00", z.tell(), -102);
        z.spoil(3);
        Due.is("from 00 by 01", z.tell(), 2);
    }

    private static void tellTellsTheFirstFault() {
        Due.part("Terms: FAULTS, the first");
        EvenWire x = led();
        x.say(Wires.bits("110101"), 6);
        x.write();
        x.put(1, 1);
        Due.is("a short piece", x.tell(), -109);
        x.cut(5);
        x.put(Wires.bits("11111"), 5);
        Due.is("no WORD ahead of a short piece", x.tell(), -105);
        x.cut(1);
        x.put(Wires.bits("000011111"), 9);
        Due.is("no WORD ahead of it", x.tell(), -101);
        x.spoil(0);
        Due.is("another LEAD ahead of all", x.tell(), -100);
        Due.holds("the MESSAGE stays", Wires.message(x).equals("110101"));
    }

    private static void putTakesWhatIsTold() {
        Due.part("promise 31: n bits (0 to 60); BAD");
        EvenWire x = new EvenWire();
        x.put(1, 1);
        for (int n : NO_LENGTHS) {
            Due.is("put(0, " + n + ")", x.put(0, n), -2);
            Due.is("put(1, " + n + ")", x.put(1, n), -2);
        }
        for (int n = 0; n <= 60; n += 6) {
            for (long bits : Wires.noRowsOf(n)) {
                Due.is("put(" + bits + ", " + n + ")", x.put(bits, n), -2);
            }
        }
        Due.is("nothing came", x.cut(0), 1);
    }

    private static void putOfEachLength() {
        Due.part("promise 31: n bits come behind the PLATE, the first the highest");
        EvenWire x = new EvenWire();
        for (int n = 0; n <= 60; n++) {
            Due.is("the greatest of " + n, x.put((1L << n) - 1, n), n);
            Due.is("one more", x.put(1L << n, n), -2);
            Due.is("the least of " + n, x.put(0, n), 2 * n);
            Due.is("the last 1", x.plate(n - 1), n > 0 ? 1 : -2);
            Due.is("the first 0", x.plate(n), n > 0 ? 0 : -2);
            Due.is("cut(0)", x.cut(0), 2 * n);
        }
        Wires.putAll(x, MIXED);
        Due.holds("60 bits in their order", Wires.plate(x).equals(MIXED));
    }

    private static void putUpToTheLimit() {
        Due.part("Terms: PLATE: up to 600 bits; promise 31: FULL");
        EvenWire x = new EvenWire();
        for (int n = 60; n <= 600; n += 60) {
            Due.is("60 more", x.put(Wires.bits(MIXED), 60), n);
        }
        for (int n = 1; n <= 60; n++) {
            Due.is(n + " behind 600", x.put(0, n), -4);
        }
        Due.is("none behind 600", x.put(0, 0), 600);
        Due.is("the last stays", x.plate(599), 1);
        for (int n = 1; n <= 60; n++) {
            EvenWire y = filled(0, 600 - n);
            if (n < 60) {
                Due.is("one too many", y.put(0, n + 1), -4);
            }
            Due.is("none came", y.count(1), 600 - n);
            Due.is("just as many", y.put(1, n), 600);
            Due.is("the last", y.plate(599), 1);
            Due.is("no more", y.put(0, 1), -4);
        }
        EvenWire z = filled(0, 240);
        Due.is("more than a MESSAGE", z.put(0, 1), 241);
    }

    private static void putIsBadAheadOfFull() {
        Due.part("Terms: BAD ahead of FULL (put)");
        EvenWire x = filled(0, 600);
        Due.is("put(2, 1)", x.put(2, 1), -2);
        Due.is("put(0, 61)", x.put(0, 61), -2);
        Due.is("put(-1, 60)", x.put(-1, 60), -2);
        Due.is("put(1, 0)", x.put(1, 0), -2);
        Due.is("put(0, -1)", x.put(0, -1), -2);
    }

    private static void cutEdges() {
        Due.part("promise 32: the first n bits alone: how many are gone; BAD");
        int[] sizes = {0, 1, 5, 600};
        for (int size : sizes) {
            EvenWire x = filled(3, size);
            int[] wrong = {LEAST, -1, size + 1, size + 2, 601, MOST};
            for (int n : wrong) {
                Due.is("cut(" + n + ") of " + size, x.cut(n), -2);
                Due.is("all is there", x.count(1), size);
            }
            Due.is("cut(" + size + ") of " + size, x.cut(size), 0);
            if (size > 0) {
                Due.is("but for one", x.cut(size - 1), 1);
                Due.is("it is gone", x.plate(size - 1), -2);
                Due.is("no such thing now", x.cut(size), -2);
                Due.is("the one ahead stays", x.plate(size - 2), size > 1 ? mixed(size).charAt(size - 2) - '0' : -2);
            }
            Due.is("cut(0)", x.cut(0), Math.max(0, size - 1));
            Due.is("empty", x.count(1), 0);
            Due.is("cut(0) again", x.cut(0), 0);
            Due.is("the MESSAGE stays", x.count(0), 3);
        }
    }

    private static void spoilEdges() {
        Due.part("promise 33: bit i becomes the other one: what it was; BAD");
        int[] sizes = {0, 1, 60, 600};
        for (int size : sizes) {
            EvenWire x = filled(240, size);
            int[] wrong = {LEAST, -1, size, size + 1, 600, MOST};
            for (int i : wrong) {
                Due.is("spoil(" + i + ") of " + size, x.spoil(i), -2);
            }
            int[] places = {0, size / 2, size - 1};
            for (int i : places) {
                int was = size > 0 ? mixed(size).charAt(i) - '0' : -2;
                Due.is("spoil(" + i + ")", x.spoil(i), was);
                Due.is("plate(" + i + ")", x.plate(i), size > 0 ? 1 - was : -2);
                Due.is("spoil(" + i + ") again", x.spoil(i), size > 0 ? 1 - was : -2);
                Due.is("plate(" + i + ")", x.plate(i), was);
            }
            Due.is("how many there are", x.count(1), size);
        }
        EvenWire y = filled(0, 60);
        Due.is("spoil(3)", y.spoil(3), 1);
        Due.holds("that one alone", Wires.plate(y).equals("1100" + MIXED.substring(4)));
        y.cut(3);
        Due.is("a bit that is gone", y.spoil(3), -2);
        y.put(2, 2);
        Due.is("another one there", y.plate(3), 1);
    }

    private static void plateEdges() {
        Due.part("promise 34: BAD");
        int[] sizes = {0, 1, 60, 450};
        for (int size : sizes) {
            EvenWire x = filled(240, size);
            int[] wrong = {LEAST, -1, size, size + 1, 600, MOST};
            for (int i : wrong) {
                Due.is("plate(" + i + ") of " + size, x.plate(i), -2);
            }
            for (int i = 0; i < size; i++) {
                Due.is("plate(" + i + ") of " + size, x.plate(i), mixed(size).charAt(i) - '0');
            }
        }
        EvenWire y = filled(0, 600);
        Due.is("plate(599)", y.plate(599), 1);
        Due.is("plate(600)", y.plate(600), -2);
    }

    private static void checkWithoutStates() {
        Due.part("promise 35: NOT: there are no STATES");
        EvenWire x = new EvenWire();
        Due.is("empty", x.check(), -3);
        x.put(1, 1);
        Due.is("one bit", x.check(), -3);
        EvenWire y = Wires.dumb();
        Due.is("no ROW is GOOD", y.check(), -3);
        y.put(1, 1);
        Due.is("one bit", y.check(), -3);
    }

    private static void checkOfNoBits() {
        Due.part("promise 35: of an empty PLATE: NONE");
        EvenWire[] wires = {Wires.free(), Wires.built(0, 0, -1), Wires.leaning(1), Wires.spaced()};
        for (EvenWire x : wires) {
            Due.is("check()", x.check(), -1);
        }
    }

    private static void checkOfFirstAndLast() {
        Due.part("promise 35: the place of the first bit by which it is not GOOD any more");
        EvenWire x = Wires.built(0, 0, -1);
        x.put(0, 1);
        Due.is("the first of one", x.check(), 0);
        x.cut(0);
        Wires.putAll(x, Wires.ones(599));
        Due.is("599 1s", x.check(), -1);
        x.put(0, 1);
        Due.is("the last of 600", x.check(), 599);
        x.spoil(0);
        Due.is("the first of two", x.check(), 0);
        x.spoil(0);
        x.spoil(599);
        Due.is("600 1s", x.check(), -1);
        for (int i = 0; i < 600; i += 7) {
            x.spoil(i);
            Due.is("0 at " + i, x.check(), i);
            x.spoil(i);
        }
    }

    private static void checkOfARowThatEnds() {
        Due.part("promise 35: a bit behind which nothing can go on");
        EvenWire x = Wires.built(0, -1, -1, "11", "101", "1000", "1001");
        Wires.putAll(x, "0000100");
        Due.is("the 1, though 100 keeps the BANS", x.check(), 4);
        EvenWire y = Wires.built(0, 7, 5);
        Wires.putAll(y, "00000");
        Due.is("LEAN -5", y.check(), -1);
        y.put(0, 1);
        Due.is("LEAN -6", y.check(), 5);
        EvenWire z = Wires.built(2, 7, 3);
        Due.is("0s lean too much", z.states(), 0);
    }

    private static void shapeTakesWhatIsTold() {
        Due.part("promise 36: BAD");
        int[] wrong = {LEAST, -5, -1, 5, 6, 10, MOST};
        EvenWire[] some = {new EvenWire(), filled(5, 5), filled(240, 600)};
        for (EvenWire x : some) {
            for (int what : wrong) {
                Due.is("shape(" + what + ")", x.shape(what), -2);
            }
        }
    }

    private static void shapeOfNoBits() {
        Due.part("promise 36: the empty beginning, too");
        EvenWire x = new EvenWire();
        for (int what = 0; what <= 4; what++) {
            Due.is("empty: shape(" + what + ")", x.shape(what), 0);
        }
        x.put(7, 3);
        Due.is("the least of 111 is that of the empty one", x.shape(0), 0);
        x.cut(0);
        x.put(0, 3);
        Due.is("the greatest of 000 is that of the empty one", x.shape(1), 0);
        Due.is("the least of 000", x.shape(0), -3);
        Due.is("1, 4 and 9", x.shape(2), 14);
        x.cut(0);
        for (int what = 0; what <= 4; what++) {
            Due.is("empty again: shape(" + what + ")", x.shape(what), 0);
        }
    }

    private static void shapeOfFewBits() {
        Due.part("promise 36: 0 to 4 of all PLATES up to 8 bits");
        for (int n = 0; n <= 8; n++) {
            for (int row = 0; row < 1 << n; row++) {
                EvenWire x = new EvenWire();
                SlowWire s = new SlowWire();
                x.put(row, n);
                s.put(row, n);
                for (int what = 0; what <= 4; what++) {
                    Due.is("shape(" + what + ") of " + s.plate, x.shape(what), s.shape(what));
                }
            }
        }
    }

    private static void shapeOfSixHundred() {
        Due.part("promise 36: of 600 bits");
        shapeIs(Wires.ones(600), 0, 600, 72180100, 600, 0);
        shapeIs(Wires.zeros(600), -600, 0, 72180100, 600, 0);
        shapeIs("01".repeat(300), -1, 0, 300, 1, 599);
        shapeIs("10".repeat(300), 0, 1, 300, 1, 599);
        shapeIs("0" + Wires.ones(599), -1, 598, 1 + 598 * 599 / 2 * 1197 / 3, 599, 1);
        shapeIs(Wires.ones(599) + "0", 0, 599, 599 * 600 / 2 * 1199 / 3 + 598 * 598, 599, 1);
    }

    private static void shapeIs(String plate, int... due) {
        EvenWire x = new EvenWire();
        Wires.putAll(x, plate);
        for (int what = 0; what <= 4; what++) {
            Due.is("shape(" + what + ")", x.shape(what), due[what]);
        }
    }

    private static void countTakesWhatIsTold() {
        Due.part("promise 37: BAD");
        int[] wrong = {LEAST, -8, -1, 8, 9, 16, MOST};
        EvenWire[] some = {new EvenWire(), Wires.dumb(), led(), filled(240, 600)};
        for (EvenWire x : some) {
            for (int what : wrong) {
                Due.is("count(" + what + ")", x.count(what), -2);
            }
        }
        EvenWire y = filled(240, 600);
        y.code(8, 12);
        int[] due = {240, 600, 1, 1, 8, 12, 0, 1};
        for (int what = 0; what <= 7; what++) {
            Due.is("count(" + what + ")", y.count(what), due[what]);
        }
    }

    private static void countOfNoCode() {
        Due.part("promise 37: 3 MEMBERS (0 without a CODE), 4 m, 5 n of it (0), 6 its HOME (NONE)");
        EvenWire none = led();
        none.code(8, 8);
        EvenWire anew = led();
        anew.build();
        EvenWire[] codeless = {new EvenWire(), Wires.dumb(), Wires.leaning(2), none, anew};
        int[] due = {0, 0, 0, -1};
        for (EvenWire x : codeless) {
            for (int what = 3; what <= 6; what++) {
                Due.is("count(" + what + ")", x.count(what), due[what - 3]);
            }
        }
        EvenWire y = led();
        int[] with = {2, 3, 4, 1};
        for (int what = 3; what <= 6; what++) {
            Due.is("count(" + what + ")", y.count(what), with[what - 3]);
        }
    }

    private static void countOfBuilds() {
        Due.part("promise 37: 7 build() calls, 40 at most");
        EvenWire x = new EvenWire();
        for (int call = 0; call <= 60; call++) {
            Due.is("behind " + call, x.count(7), Math.min(call, 40));
            x.build();
        }
    }

    private static void digestOfNewObject() {
        Due.part("promise 38: h is 17; count() 0 to 7");
        Due.is("a new object", new EvenWire().digest(), Wires.digestOf(0, 0, 0, 0, 0, 0, -1, 0));
        Due.is("no STATES", Wires.dumb().digest(), Wires.digestOf(0, 0, 0, 0, 0, 0, -1, 1));
        Due.is("one STATE", Wires.free().digest(), Wires.digestOf(0, 0, 1, 0, 0, 0, -1, 1, 0, 0, 0));
        EvenWire x = Wires.leaning(1);
        x.weigh(1, 1000000);
        Due.is("where each GOES by 0, by 1, its WEIGHT", x.digest(),
            Wires.digestOf(0, 0, 3, 0, 0, 0, -1, 1, 1, 2, 0, -1, 0, 1000000, 0, -1, 0));
        x.code(1, 2);
        x.say(1, 2);
        x.put(2, 2);
        Due.is("the MESSAGE, then the PLATE", x.digest(),
            Wires.digestOf(2, 2, 3, 3, 1, 2, 0, 1, 1, 2, 0, -1, 0, 1000000, 0, -1, 0, 0, 1, 1, 0));
    }

    private static void digestWraps() {
        Due.part("promise 38: as longs that wrap");
        EvenWire x = new EvenWire();
        long[] all = {0, 0, 0, 0, 0, 0, -1, 0};
        boolean below = false;
        boolean above = false;
        for (int n = 1; n <= 60; n++) {
            x.put(n % 3 == 0 ? 1 : 0, 1);
            all = Arrays.copyOf(all, all.length + 1);
            all[all.length - 1] = n % 3 == 0 ? 1 : 0;
            all[1] = n;
            long due = Wires.digestOf(all);
            Due.is("with " + n + " bits", x.digest(), due);
            below |= due < 0;
            above |= due > Integer.MAX_VALUE;
        }
        Due.holds("below 0, and above 2^31", below && above);
    }

    private static void digestOfAll() {
        Due.part("promise 38: each bit of 240 and 600");
        EvenWire x = filled(240, 600);
        x.weigh(0, 1000000);
        long[] all = new long[11 + 840];
        long[] ahead = {240, 600, 1, 0, 0, 0, -1, 1, 0, 0, 1000000};
        System.arraycopy(ahead, 0, all, 0, 11);
        for (int i = 0; i < 240; i++) {
            all[11 + i] = mixed(240).charAt(i) - '0';
        }
        for (int i = 0; i < 600; i++) {
            all[251 + i] = mixed(600).charAt(i) - '0';
        }
        Due.is("digest()", x.digest(), Wires.digestOf(all));
        Due.is("digest() again", x.digest(), Wires.digestOf(all));
        x.spoil(0);
        all[251] = 1 - all[251];
        Due.is("another bit", x.digest(), Wires.digestOf(all));
        x.cut(0);
        x.hush();
        Due.is("empty again", x.digest(), Wires.digestOf(0, 0, 1, 0, 0, 0, -1, 1, 0, 0, 1000000));
    }

    private static void theLastOfAllCalls() {
        Due.part("An object is used for at most 512 calls");
        EvenWire x = new EvenWire();
        Due.is("call 1", x.runs(0, -1), 1);
        Due.is("call 2", x.lean(2), 1);
        for (int call = 3; call <= 42; call++) {
            Due.is("call " + call, x.build(), 5);
        }
        Due.is("call 43", x.code(3, 4), 2);
        for (int call = 44; call <= 509; call += 3) {
            Due.is("call " + call, x.say(13, 4), 4);
            Due.is("call " + (call + 1), x.write(), 9);
            Due.is("call " + (call + 2), x.hush(), 4);
        }
        // the PLATE is 0 1100 1010
        Due.is("call 512", x.digest(), Wires.digestOf(0, 9, 5, 2, 3, 4, 1, 40,
            1, 2, 0, 3, 0, 0, 0, 4, 0, -1, 1, 0, 2, -1, 0, 0, 1, 1, 0, 0, 1, 0, 1, 0));
    }
}
