import java.util.ArrayList;
import java.util.List;
import java.util.function.Supplier;

/**
 * Refusals change nothing, and asking changes nothing: behind each such call all answers are those
 * of an object that was made alike and did not get the call.
 */
public final class RefusalsTest {
    private interface Call {
        long on(EvenWire x);
    }

    private static final class Refusal {
        final String name;
        final Call call;
        final long due;

        Refusal(String name, Call call, long due) {
            this.name = name;
            this.call = call;
            this.due = due;
        }
    }

    private final List<Refusal> refusals = new ArrayList<>();
    private final List<Call> askings = new ArrayList<>();
    private final Supplier<EvenWire> maker;

    private RefusalsTest(String name, Supplier<EvenWire> maker) {
        Due.part(name);
        this.maker = maker;
        badOfBans();
        badOfWire();
        badOfWeightsAndCodes();
        badOfBits();
        askAll();
    }

    public static void main(String[] args) {
        RefusalsTest none = new RefusalsTest("a new object", EvenWire::new);
        none.withoutStates();
        none.withoutCode();
        none.run();

        RefusalsTest dumb = new RefusalsTest("no STATES", RefusalsTest::dumb);
        dumb.withoutStates();
        dumb.withoutCode();
        dumb.run();

        RefusalsTest words = new RefusalsTest("4 WORDS, no CODE", RefusalsTest::fourWords);
        words.withoutCode();
        words.add("member(0)", x -> x.member(0), -3);
        words.add("word(1, 1)", x -> x.word(1, 1), -4);
        words.add("word(63, 6)", x -> x.word(63, 6), -4);
        words.run();

        RefusalsTest coded = new RefusalsTest("a CODE", RefusalsTest::coded);
        coded.withCode(1, 3, 4);
        coded.add("wordOf(0, 0)", x -> x.wordOf(0, 0), -2);
        coded.add("read(0, 5)", x -> x.read(0, 5), -2);
        coded.run();

        RefusalsTest fault = new RefusalsTest("a FAULT", RefusalsTest::faulty);
        fault.withCode(1, 3, 4);
        fault.add("tell()", EvenWire::tell, -105);
        fault.run();

        RefusalsTest wide = new RefusalsTest("more than 600 bits to write", RefusalsTest::wide);
        wide.withCode(0, 1, 3);
        wide.add("write()", EvenWire::write, -4);
        wide.add("say(0, 1)", x -> x.say(0, 1), -4);
        wide.add("say(0, 60)", x -> x.say(0, 60), -4);
        wide.run();

        RefusalsTest dense = new RefusalsTest("more than 240 bits to tell, 40 build() calls", RefusalsTest::dense);
        dense.withCode(0, 1, 1);
        dense.add("tell()", EvenWire::tell, -4);
        dense.add("put(0, 1)", x -> x.put(0, 1), -4);
        dense.add("put(0, 60)", x -> x.put(0, 60), -4);
        dense.add("build()", EvenWire::build, -4);
        dense.run();
        Due.end();
    }

    private static EvenWire dumb() {
        EvenWire x = Wires.told(1, 2, 0, "101");
        x.build();
        x.say(5, 3);
        x.put(9, 4);
        return x;
    }

    private static EvenWire fourWords() {
        EvenWire x = Wires.told(0, 5, 3, "0111", "10101", "0", "1");
        x.clearWords();
        x.word(7, 4);
        x.word(21, 5);
        x.word(62, 6);
        x.word(62, 6);
        x.build();
        x.weigh(3, 77);
        x.mark(12);
        x.say(5, 3);
        x.put(9, 4);
        return x;
    }

    private static EvenWire coded() {
        EvenWire x = Wires.leaning(2);
        x.mark(12);
        x.best(1, 2, 50);
        x.weigh(4, 1000000);
        x.code(3, 4);
        x.say(Wires.bits("1101010"), 7);
        x.write();
        return x;
    }

    private static EvenWire faulty() {
        EvenWire x = coded();
        // 1011 at LEAN -1 becomes 1111
        x.spoil(6);
        return x;
    }

    private static EvenWire wide() {
        EvenWire x = Wires.free();
        x.code(1, 3);
        for (int i = 0; i < 4; i++) {
            x.say(123456789012345678L, 60);
        }
        x.put(9, 4);
        return x;
    }

    private static EvenWire dense() {
        EvenWire x = Wires.told(0, -1, -1);
        for (int i = 0; i < 40; i++) {
            x.build();
        }
        x.runs(1, 3);
        x.code(1, 1);
        for (int i = 0; i < 10; i++) {
            x.put(123456789012345678L, 60);
        }
        x.say(5, 3);
        return x;
    }

    private void add(String name, Call call, long due) {
        refusals.add(new Refusal(name, call, due));
    }

    private void bad(String name, Call call) {
        add(name, call, -2);
    }

    private void badOfBans() {
        bad("runs(-1, 3)", x -> x.runs(-1, 3));
        bad("runs(4, 3)", x -> x.runs(4, 3));
        bad("runs(0, 8)", x -> x.runs(0, 8));
        bad("runs(1, -1)", x -> x.runs(1, -1));
        bad("runs(0, -2)", x -> x.runs(0, -2));
        bad("word(0, 0)", x -> x.word(0, 0));
        bad("word(0, 7)", x -> x.word(0, 7));
        bad("word(2, 1)", x -> x.word(2, 1));
        bad("word(64, 6)", x -> x.word(64, 6));
        bad("word(-1, 3)", x -> x.word(-1, 3));
        bad("lean(-2)", x -> x.lean(-2));
        bad("lean(6)", x -> x.lean(6));
        bad("ban(-1)", x -> x.ban(-1));
        bad("ban(4)", x -> x.ban(4));
        bad("ban(14)", x -> x.ban(14));
        bad("ban(24)", x -> x.ban(24));
    }

    private void badOfWire() {
        bad("go(-1, 0)", x -> x.go(-1, 0));
        bad("go(100, 0)", x -> x.go(100, 0));
        bad("go(0, 2)", x -> x.go(0, 2));
        bad("go(0, -1)", x -> x.go(0, -1));
        bad("walk(100, 0, 0)", x -> x.walk(100, 0, 0));
        bad("walk(0, 1, 0)", x -> x.walk(0, 1, 0));
        bad("walk(0, -1, 5)", x -> x.walk(0, -1, 5));
        bad("walk(0, 0, 61)", x -> x.walk(0, 0, 61));
        bad("walk(0, 0, -1)", x -> x.walk(0, 0, -1));
        bad("first(100, 0)", x -> x.first(100, 0));
        bad("first(0, 2)", x -> x.first(0, 2));
        bad("first(0, -1)", x -> x.first(0, -1));
        bad("count(100, 0)", x -> x.count(100, 0));
        bad("count(0, 61)", x -> x.count(0, 61));
        bad("count(0, -1)", x -> x.count(0, -1));
        bad("number(100, 0, 0)", x -> x.number(100, 0, 0));
        bad("number(0, 1, 0)", x -> x.number(0, 1, 0));
        bad("number(0, -1, 5)", x -> x.number(0, -1, 5));
        bad("number(0, 0, 61)", x -> x.number(0, 0, 61));
        bad("row(100, 0, 0)", x -> x.row(100, 0, 0));
        bad("row(0, -1, 3)", x -> x.row(0, -1, 3));
        bad("row(0, 0, 61)", x -> x.row(0, 0, 61));
        bad("row(0, 0, -1)", x -> x.row(0, 0, -1));
        bad("ways(100, 0, 0)", x -> x.ways(100, 0, 0));
        bad("ways(0, 100, 0)", x -> x.ways(0, 100, 0));
        bad("ways(0, 0, 13)", x -> x.ways(0, 0, 13));
        bad("ways(0, 0, -1)", x -> x.ways(0, 0, -1));
        bad("mark(0)", x -> x.mark(0));
        bad("mark(13)", x -> x.mark(13));
    }

    private void badOfWeightsAndCodes() {
        bad("weigh(100, 1)", x -> x.weigh(100, 1));
        bad("weigh(-1, 1)", x -> x.weigh(-1, 1));
        bad("weigh(0, -1)", x -> x.weigh(0, -1));
        bad("weigh(0, 1000001)", x -> x.weigh(0, 1000001));
        bad("weight(100)", x -> x.weight(100));
        bad("weight(-1)", x -> x.weight(-1));
        bad("judge(-1, 1)", x -> x.judge(-1, 1));
        bad("judge(13, 1)", x -> x.judge(13, 1));
        bad("judge(1, 0)", x -> x.judge(1, 0));
        bad("judge(1, 13)", x -> x.judge(1, 13));
        bad("best(-1, 1, 1)", x -> x.best(-1, 1, 1));
        bad("best(13, 1, 1)", x -> x.best(13, 1, 1));
        bad("best(1, 0, 1)", x -> x.best(1, 0, 1));
        bad("best(1, 13, 1)", x -> x.best(1, 13, 1));
        bad("best(1, 1, 0)", x -> x.best(1, 1, 0));
        bad("best(1, 1, 201)", x -> x.best(1, 1, 201));
        bad("code(0, 1)", x -> x.code(0, 1));
        bad("code(9, 9)", x -> x.code(9, 9));
        bad("code(1, 0)", x -> x.code(1, 0));
        bad("code(1, 13)", x -> x.code(1, 13));
        bad("member(100)", x -> x.member(100));
        bad("member(-1)", x -> x.member(-1));
    }

    private void badOfBits() {
        bad("say(1, 0)", x -> x.say(1, 0));
        bad("say(8, 3)", x -> x.say(8, 3));
        bad("say(-1, 3)", x -> x.say(-1, 3));
        bad("say(0, 61)", x -> x.say(0, 61));
        bad("say(0, -1)", x -> x.say(0, -1));
        bad("message(-1)", x -> x.message(-1));
        bad("message(240)", x -> x.message(240));
        bad("put(1, 0)", x -> x.put(1, 0));
        bad("put(8, 3)", x -> x.put(8, 3));
        bad("put(-1, 3)", x -> x.put(-1, 3));
        bad("put(0, 61)", x -> x.put(0, 61));
        bad("put(0, -1)", x -> x.put(0, -1));
        bad("cut(-1)", x -> x.cut(-1));
        bad("cut(601)", x -> x.cut(601));
        bad("spoil(-1)", x -> x.spoil(-1));
        bad("spoil(600)", x -> x.spoil(600));
        bad("plate(-1)", x -> x.plate(-1));
        bad("plate(600)", x -> x.plate(600));
        bad("shape(-1)", x -> x.shape(-1));
        bad("shape(5)", x -> x.shape(5));
        bad("count(-1)", x -> x.count(-1));
        bad("count(8)", x -> x.count(8));
    }

    private void withoutStates() {
        add("mark(1)", x -> x.mark(1), -3);
        add("judge(1, 1)", x -> x.judge(1, 1), -3);
        add("best(1, 1, 1)", x -> x.best(1, 1, 1), -3);
        add("code(1, 1)", x -> x.code(1, 1), -3);
        add("check()", EvenWire::check, -3);
        bad("go(0, 0)", x -> x.go(0, 0));
        bad("weigh(0, 0)", x -> x.weigh(0, 0));
        bad("member(0)", x -> x.member(0));
    }

    private void withoutCode() {
        add("wordOf(0, 0)", x -> x.wordOf(0, 0), -3);
        add("wordOf(-1, -1)", x -> x.wordOf(-1, -1), -3);
        add("read(0, 0)", x -> x.read(0, 0), -3);
        add("read(-1, -1)", x -> x.read(-1, -1), -3);
        add("write()", EvenWire::write, -3);
        add("tell()", EvenWire::tell, -3);
    }

    private void withCode(int member, int m, int n) {
        bad("wordOf(100, 0)", x -> x.wordOf(100, 0));
        bad("wordOf(member, -1)", x -> x.wordOf(member, -1));
        bad("wordOf(member, 2^m)", x -> x.wordOf(member, 1 << m));
        bad("read(100, 0)", x -> x.read(100, 0));
        bad("read(member, -1)", x -> x.read(member, -1));
        bad("read(member, 2^n)", x -> x.read(member, 1 << n));
    }

    /** What only asks, also where it is refused. */
    private void askAll() {
        askings.add(x -> x.ban(1));
        askings.add(EvenWire::states);
        askings.add(x -> x.go(0, 0));
        askings.add(x -> x.walk(0, 0, 60));
        askings.add(x -> x.first(0, 1));
        askings.add(x -> x.count(0, 60));
        askings.add(x -> x.number(0, 1, 60));
        askings.add(x -> x.row(0, 1, 60));
        askings.add(x -> x.ways(0, 0, 12));
        askings.add(x -> x.ways(0, 1, 5));
        askings.add(EvenWire::marked);
        askings.add(x -> x.weight(0));
        askings.add(x -> x.judge(0, 12));
        askings.add(x -> x.judge(12, 1));
        askings.add(x -> x.member(0));
        askings.add(x -> x.wordOf(1, 1));
        askings.add(x -> x.read(1, 1));
        askings.add(x -> x.message(0));
        askings.add(x -> x.plate(0));
        askings.add(EvenWire::check);
        askings.add(x -> x.shape(2));
        askings.add(x -> x.count(1));
        askings.add(EvenWire::digest);
        askings.add(x -> x.say(0, 0));
        askings.add(x -> x.put(0, 0));
        askings.add(x -> x.cut(x.count(1)));
    }

    private void run() {
        List<Long> due = answers(maker.get());
        for (Refusal refusal : refusals) {
            EvenWire x = maker.get();
            Due.is(refusal.name, refusal.call.on(x), refusal.due);
            same("behind " + refusal.name, answers(x), due);
        }
        EvenWire all = maker.get();
        for (Refusal refusal : refusals) {
            Due.is(refusal.name + " behind others", refusal.call.on(all), refusal.due);
        }
        same("behind all refusals", answers(all), due);
        EvenWire asked = maker.get();
        for (Call asking : askings) {
            long first = asking.on(asked);
            Due.is("asked again", asking.on(asked), first);
        }
        same("behind all that asks", answers(asked), due);
    }

    private static void same(String when, List<Long> got, List<Long> due) {
        Due.is("how many answers " + when, got.size(), due.size());
        for (int i = 0; i < got.size() && i < due.size(); i++) {
            Due.is("answer " + i + " " + when, got.get(i), due.get(i));
        }
    }

    /** All that an object tells of itself, and then what comes of calls that change it. */
    private static List<Long> answers(EvenWire x) {
        List<Long> all = new ArrayList<>();
        for (int what = 0; what <= 7; what++) {
            all.add((long) x.count(what));
        }
        int[] bans = {0, 1, 2, 3, 10, 11, 12, 13, 20, 21, 22, 23};
        for (int what : bans) {
            all.add((long) x.ban(what));
        }
        all.add(x.digest());
        all.add((long) x.marked());
        all.add((long) x.check());
        for (int state = 0; state < x.states() && state < 6; state++) {
            all.add((long) x.go(state, 0));
            all.add((long) x.go(state, 1));
            all.add(x.first(state, 1));
            all.add(x.count(state, 60));
            all.add(x.row(state, x.count(state, 59) / 2, 60));
            all.add((long) x.ways(0, state, 12));
            all.add((long) x.weight(state));
            all.add((long) x.member(state));
            all.add((long) x.wordOf(state, 1));
            all.add((long) x.read(state, 6));
        }
        for (int what = 0; what <= 4; what++) {
            all.add((long) x.shape(what));
        }
        addChanges(x, all);
        return all;
    }

    private static void addChanges(EvenWire x, List<Long> all) {
        all.add((long) x.judge(1, 2));
        all.add((long) x.tell());
        all.add((long) x.message(0));
        all.add((long) x.say(1, 1));
        all.add((long) x.write());
        all.add((long) x.put(1, 1));
        all.add((long) x.spoil(2));
        all.add(x.digest());
        all.add((long) x.mark(12));
        all.add((long) x.marked());
        all.add((long) x.best(1, 2, 9));
        all.add((long) x.code(1, 2));
        all.add(x.digest());
        all.add((long) x.write());
        all.add((long) x.word(5, 3));
        all.add((long) x.build());
        all.add((long) x.states());
        all.add((long) x.marked());
        all.add(x.digest());
    }
}
