import java.util.function.IntSupplier;
import java.util.function.Supplier;

/**
 * Each number that a call takes: the last one that is taken and the first that is refused on either
 * side; how many there may be; which refusal is the first; and that a refused call changes nothing.
 */
public final class NumberEdgesTest {
    private interface Call {
        int on(RoomRing x, int number);
    }

    public static void main(String[] args) {
        names();
        namesThatAreThere();
        namesThatAreNotThere();
        weights();
        keys();
        keysThatAreThere();
        keysThatAreNotThere();
        extras();
        whatsAndPlaces();
        bytes();
        eachHostOnce();
        sixHostsAtMost();
        eachKeyOnce();
        fortyKeysAtMost();
        bytesAtMost();
        firstOfRefusals();
        refusedChangesNothing();
        refusedAsOftenAsCalled();
        Check.end();
    }

    /** Every number from low to high is not BAD; those beside them, and the farthest ones, are. */
    private static void range(String name, Supplier<RoomRing> made, Call call, int low, int high) {
        for (int number = low; number <= high; number++) {
            RoomRing x = made.get();
            Check.due("BAD for " + name + " with " + number, call.on(x, number) == Check.BAD ? 1 : 0, 0);
            Check.due("told(0) behind " + name + " with " + number, x.told(0), 0);
        }
        beside(name, made, call, low - 1, high + 1);
    }

    private static void beside(String name, Supplier<RoomRing> made, Call call, int below, int above) {
        for (int number : new int[] {below, above, Integer.MIN_VALUE, Integer.MAX_VALUE, below - 100, above + 100}) {
            RoomRing x = made.get();
            Check.refused(x, name + " with " + number, () -> call.on(x, number), Check.BAD);
        }
    }

    private static RoomRing twoHosts() {
        return Check.hosts(0, 1, 99, 4);
    }

    /** Keys at both ends of their numbers, and two hosts. */
    private static RoomRing twoKeys() {
        return Check.keys(twoHosts(), 0, 999);
    }

    private static void names() {
        Check.sentence("HOSTS, each with a NAME (0 .. 99)");
        range("host(n, 1)", RoomRing::new, (x, n) -> x.host(n, 1), 0, 99);
        range("weighs(n, 1)", NumberEdgesTest::twoHosts, (x, n) -> x.weighs(n, 1), 0, 99);
        range("goes(n)", NumberEdgesTest::twoHosts, RoomRing::goes, 0, 99);
        range("of(n, 0)", NumberEdgesTest::twoHosts, (x, n) -> x.of(n, 0), 0, 99);
        range("mark(n, 0)", NumberEdgesTest::twoHosts, (x, n) -> x.mark(n, 0), 0, 99);
        range("share(n)", NumberEdgesTest::twoHosts, RoomRing::share, 0, 99);
        range("without(n)", NumberEdgesTest::twoHosts, RoomRing::without, 0, 99);
    }

    private static void namesThatAreThere() {
        for (int n : new int[] {0, 99}) {
            Check.sentence("2: A HOST with NAME n, WEIGHT w comes");
            RoomRing x = new RoomRing();
            Check.taken(x, "host(" + n + ", 3)", () -> x.host(n, 3), 0);
            Check.due("name(0)", x.name(0), n);
            Check.sentence("8 to 16: of the first and the last NAME");
            Check.taken(x, "of(" + n + ", 0)", () -> x.of(n, 0), 3);
            Check.taken(x, "mark(" + n + ", 0)", () -> x.mark(n, 0), n == 0 ? 5 : 24);
            Check.taken(x, "share(" + n + ")", () -> x.share(n), 101);
            Check.taken(x, "without(" + n + ")", () -> x.without(n), 0);
            Check.sentence("3: WEIGHT of HOST n becomes w");
            Check.taken(x, "weighs(" + n + ", 4)", () -> x.weighs(n, 4), 0);
            Check.due("of(" + n + ", 0)", x.of(n, 0), 4);
            Check.sentence("4: HOST n goes");
            Check.taken(x, "goes(" + n + ")", () -> x.goes(n), 0);
            Check.due("count(0)", x.count(0), 0);
        }
    }

    private static void namesThatAreNotThere() {
        Check.sentence("3, 4, 8, 9, 12, 16: NO: it is not there");
        for (RoomRing x : new RoomRing[] {new RoomRing(), Check.hosts(49, 1, 51, 4)}) {
            for (int n : new int[] {0, 50, 99}) {
                Check.refused(x, "weighs(" + n + ", 4)", () -> x.weighs(n, 4), Check.NO);
                Check.refused(x, "goes(" + n + ")", () -> x.goes(n), Check.NO);
                Check.refused(x, "of(" + n + ", 42)", () -> x.of(n, 42), Check.NO);
                Check.refused(x, "mark(" + n + ", 7)", () -> x.mark(n, 7), Check.NO);
                Check.refused(x, "share(" + n + ")", () -> x.share(n), Check.NO);
                Check.refused(x, "without(" + n + ")", () -> x.without(n), Check.NO);
            }
        }
        RoomRing gone = Check.hosts(50, 1, 51, 1);
        gone.goes(50);
        Check.refused(gone, "goes(50) once more", () -> gone.goes(50), Check.NO);
        Check.refused(gone, "of(50, 0) of one that went", () -> gone.of(50, 0), Check.NO);
    }

    private static void weights() {
        Check.sentence("a WEIGHT (1 .. 4)");
        range("host(7, w)", RoomRing::new, (x, w) -> x.host(7, w), 1, 4);
        range("weighs(99, w)", NumberEdgesTest::twoHosts, (x, w) -> x.weighs(99, w), 1, 4);
        for (int w = 1; w <= 4; w++) {
            RoomRing x = Check.hosts(7, w);
            Check.due("of(7, 0)", x.of(7, 0), w);
            x.weighs(7, 5 - w);
            Check.due("of(7, 0)", x.of(7, 0), 5 - w);
        }
    }

    private static void keys() {
        Check.sentence("KEYS 0 .. 999");
        range("key(k)", RoomRing::new, RoomRing::key, 0, 999);
        range("drops(k)", NumberEdgesTest::twoKeys, RoomRing::drops, 0, 999);
        range("has(k)", NumberEdgesTest::twoKeys, RoomRing::has, 0, 999);
        range("about(k, 0)", NumberEdgesTest::twoKeys, (x, k) -> x.about(k, 0), 0, 999);
        range("would(k)", NumberEdgesTest::twoHosts, RoomRing::would, 0, 999);
    }

    private static void keysThatAreThere() {
        for (int k : new int[] {0, 999}) {
            RoomRing x = Check.hosts(7, 1);
            Check.sentence("15: The NAME of the HOST that KEY k would have");
            Check.taken(x, "would(" + k + ")", () -> x.would(k), 7);
            Check.sentence("5: KEY k comes: its HOST's NAME");
            Check.taken(x, "key(" + k + ")", () -> x.key(k), 7);
            Check.due("of(7, 3)", x.of(7, 3), k);
            Check.sentence("13: The NAME of the HOST that has KEY k");
            Check.taken(x, "has(" + k + ")", () -> x.has(k), 7);
            Check.sentence("the PLACE of a KEY: (53 KEY + 17) by 101, what is left over");
            Check.taken(x, "about(" + k + ", 0)", () -> x.about(k, 0), k == 0 ? 17 : 40);
            Check.sentence("6: KEY k goes: MOVED");
            Check.taken(x, "drops(" + k + ")", () -> x.drops(k), 0);
            Check.due("count(1)", x.count(1), 0);
        }
    }

    private static void keysThatAreNotThere() {
        Check.sentence("6, 13, 14: NO: it is not there");
        for (RoomRing x : new RoomRing[] {new RoomRing(), Check.keys(twoHosts(), 499, 501)}) {
            for (int k : new int[] {0, 500, 999}) {
                Check.refused(x, "drops(" + k + ")", () -> x.drops(k), Check.NO);
                Check.refused(x, "has(" + k + ")", () -> x.has(k), Check.NO);
                Check.refused(x, "about(" + k + ", 2)", () -> x.about(k, 2), Check.NO);
            }
        }
        RoomRing gone = Check.keys(new RoomRing(), 5, 6);
        gone.drops(5);
        Check.refused(gone, "drops(5) once more", () -> gone.drops(5), Check.NO);
        Check.refused(gone, "has(5) of one that went", () -> gone.has(5), Check.NO);
    }

    private static void extras() {
        Check.sentence("EXTRA e (0 .. 200; 25)");
        Check.due("count(2) of a new object", new RoomRing().count(2), 25);
        range("extra(n)", RoomRing::new, RoomRing::extra, 0, 200);
        for (int e : new int[] {0, 1, 199, 200}) {
            RoomRing x = new RoomRing();
            Check.taken(x, "extra(" + e + ")", () -> x.extra(e), 0);
            Check.due("count(2)", x.count(2), e);
        }
    }

    private static void whatsAndPlaces() {
        Check.sentence("8: BAD: what above 42, too");
        range("of(0, what)", NumberEdgesTest::twoKeys, (x, what) -> x.of(0, what), 0, 42);
        Check.sentence("9: BAD: j not one of 0 to 7, too");
        range("mark(0, j)", NumberEdgesTest::twoHosts, (x, j) -> x.mark(0, j), 0, 7);
        Check.sentence("10: at a PLACE (0 .. 100). BAD");
        range("at(place)", NumberEdgesTest::twoHosts, RoomRing::at, 0, 100);
        Check.sentence("11: BAD: i below 0, too");
        for (int i : new int[] {-1, -2, -100, Integer.MIN_VALUE}) {
            RoomRing x = twoHosts();
            Check.refused(x, "name(" + i + ")", () -> x.name(i), Check.BAD);
        }
        Check.sentence("11: NONE: not so many");
        for (int i : new int[] {2, 5, 6, 7, 1000, Integer.MAX_VALUE}) {
            RoomRing x = twoHosts();
            Check.taken(x, "name(" + i + ")", () -> x.name(i), Check.NONE);
        }
        Check.sentence("14: PLACE (what 0), PASSED (1), FAR (2). BAD");
        range("about(0, what)", NumberEdgesTest::twoKeys, (x, what) -> x.about(0, what), 0, 2);
        Check.sentence("17: what 0 to 8. BAD");
        range("count(what)", NumberEdgesTest::twoKeys, RoomRing::count, 0, 8);
        Check.sentence("22: what 0 to 4. BAD");
        range("told(what)", NumberEdgesTest::twoKeys, RoomRing::told, 0, 4);
    }

    private static void bytes() {
        Check.sentence("18: A byte (0 .. 127). BAD");
        range("type(c)", RoomRing::new, RoomRing::type, 0, 127);
        RoomRing x = new RoomRing();
        for (int c = 0; c < 120; c++) {
            Check.due("type(" + c + ")", x.type(c), c + 1);
        }
        RoomRing y = new RoomRing();
        for (int c = 120; c < 128; c++) {
            Check.due("type(" + c + ")", y.type(c), c - 119);
        }
    }

    private static void eachHostOnce() {
        Check.sentence("2: NO: it is there");
        RoomRing x = Check.hosts(0, 1, 50, 2, 99, 4);
        for (int n : new int[] {0, 50, 99}) {
            Check.refused(x, "host(" + n + ", 3)", () -> x.host(n, 3), Check.NO);
        }
        x.goes(50);
        Check.taken(x, "host(50, 3) once it went", () -> x.host(50, 3), 0);
    }

    private static void sixHostsAtMost() {
        Check.sentence("2: FULL: 6 HOSTS");
        RoomRing x = new RoomRing();
        for (int n = 0; n < 6; n++) {
            int name = 10 * n;
            Check.due("count(0)", x.count(0), n);
            Check.taken(x, "host(" + name + ", 4)", () -> x.host(name, 4), 0);
        }
        Check.refused(x, "host(60, 4), the seventh", () -> x.host(60, 4), Check.FULL);
        Check.refused(x, "host(5, 1), the seventh", () -> x.host(5, 1), Check.FULL);
        Check.taken(x, "weighs(50, 1) while full", () -> x.weighs(50, 1), 0);
        Check.sentence("17: HOSTS (what 0), MARKS (3), all WEIGHTS (8), as many as there may be");
        x.weighs(50, 4);
        Check.due("count(0)", x.count(0), 6);
        Check.due("count(3)", x.count(3), 48);
        Check.due("count(8)", x.count(8), 24);
        Check.due("name(5)", x.name(5), 50);
        Check.due("name(6)", x.name(6), Check.NONE);
        Check.sentence("2: FULL: 6 HOSTS, and room again when one went");
        x.goes(0);
        Check.taken(x, "host(60, 1)", () -> x.host(60, 1), 0);
        Check.refused(x, "host(0, 1)", () -> x.host(0, 1), Check.FULL);
    }

    private static void eachKeyOnce() {
        Check.sentence("5, 15: NO: it is there");
        RoomRing x = Check.keys(twoHosts(), 0, 500, 999);
        for (int k : new int[] {0, 500, 999}) {
            Check.refused(x, "key(" + k + ")", () -> x.key(k), Check.NO);
            Check.refused(x, "would(" + k + ")", () -> x.would(k), Check.NO);
        }
        x.drops(500);
        Check.taken(x, "would(500) once it went", () -> x.would(500), x.would(500));
        Check.taken(x, "key(500) once it went", () -> x.key(500), x.would(500));
    }

    private static void fortyKeysAtMost() {
        Check.sentence("5, 15: FULL: 40 KEYS");
        RoomRing x = Check.keysUpTo(Check.hosts(7, 1), 39);
        Check.due("count(1)", x.count(1), 39);
        Check.taken(x, "would(999) as the fortieth", () -> x.would(999), 7);
        Check.taken(x, "key(999) as the fortieth", () -> x.key(999), 7);
        Check.due("count(1)", x.count(1), 40);
        Check.refused(x, "key(998), one more", () -> x.key(998), Check.FULL);
        Check.refused(x, "would(998), one more", () -> x.would(998), Check.FULL);
        Check.sentence("8: its i-th KEY by numbers (3 and i), as many as there may be");
        Check.due("of(7, 2)", x.of(7, 2), 40);
        Check.due("of(7, 41)", x.of(7, 41), 38);
        Check.taken(x, "of(7, 42)", () -> x.of(7, 42), 999);
        Check.sentence("17: the most KEYS of one HOST (7), as many as there may be");
        Check.due("count(7)", x.count(7), 40);
        Check.sentence("5, 15: FULL: 40 KEYS, and room again when one went");
        x.drops(0);
        Check.taken(x, "of(7, 42) of 39", () -> x.of(7, 42), Check.NONE);
        Check.taken(x, "would(998)", () -> x.would(998), 7);
        Check.taken(x, "key(998)", () -> x.key(998), 7);
        Check.refused(x, "key(0)", () -> x.key(0), Check.FULL);
    }

    private static void bytesAtMost() {
        Check.sentence("18: FULL: 120");
        RoomRing x = Check.ringOf("k5;".repeat(39));
        Check.due("told(3)", x.told(3), 117);
        x.type(' ');
        x.type(' ');
        Check.taken(x, "type(127), the last", () -> x.type(127), 120);
        Check.refused(x, "type(0), one more", () -> x.type(0), Check.FULL);
        Check.refused(x, "type(127), one more", () -> x.type(127), Check.FULL);
        Check.due("does(): the 120th byte is the one that came as such", x.does(), -10 - 119);
        Check.sentence("19: THE TEXT is empty: how many it had");
        Check.taken(x, "clear()", x::clear, 120);
        Check.due("told(3)", x.told(3), 0);
        Check.taken(x, "clear() of none", x::clear, 0);
        Check.sentence("18: FULL: 120, and room again behind clear()");
        Check.taken(x, "type(65)", () -> x.type(65), 1);
        Check.taken(x, "clear() of one", x::clear, 1);
    }

    private static void firstOfRefusals() {
        Check.sentence("Refused, the first of: BAD, NO, FULL");
        RoomRing x = Check.keysUpTo(Check.hosts(1, 1, 2, 1, 3, 1, 4, 1, 5, 1, 6, 1), 40);
        Check.refused(x, "host(1, 0): BAD and NO and FULL", () -> x.host(1, 0), Check.BAD);
        Check.refused(x, "host(1, 5): BAD and NO and FULL", () -> x.host(1, 5), Check.BAD);
        Check.refused(x, "host(7, 0): BAD and FULL", () -> x.host(7, 0), Check.BAD);
        Check.refused(x, "host(100, 1): BAD and FULL", () -> x.host(100, 1), Check.BAD);
        Check.refused(x, "host(1, 1): NO and FULL", () -> x.host(1, 1), Check.NO);
        Check.refused(x, "weighs(7, 0): BAD and NO", () -> x.weighs(7, 0), Check.BAD);
        Check.refused(x, "weighs(7, 5): BAD and NO", () -> x.weighs(7, 5), Check.BAD);
        Check.refused(x, "key(-1): BAD and FULL", () -> x.key(-1), Check.BAD);
        Check.refused(x, "key(1000): BAD and FULL", () -> x.key(1000), Check.BAD);
        Check.refused(x, "key(39): NO and FULL", () -> x.key(39), Check.NO);
        Check.refused(x, "would(-1): BAD and FULL", () -> x.would(-1), Check.BAD);
        Check.refused(x, "would(1000): BAD and FULL", () -> x.would(1000), Check.BAD);
        Check.refused(x, "would(39): NO and FULL", () -> x.would(39), Check.NO);
        Check.refused(x, "of(7, 43): BAD and NO", () -> x.of(7, 43), Check.BAD);
        Check.refused(x, "of(7, -1): BAD and NO", () -> x.of(7, -1), Check.BAD);
        Check.refused(x, "mark(7, 8): BAD and NO", () -> x.mark(7, 8), Check.BAD);
        Check.refused(x, "mark(7, -1): BAD and NO", () -> x.mark(7, -1), Check.BAD);
        RoomRing y = Check.ringOf("x".repeat(120));
        Check.refused(y, "about(40, 3): BAD and NO", () -> y.about(40, 3), Check.BAD);
        Check.refused(y, "about(40, -1): BAD and NO", () -> y.about(40, -1), Check.BAD);
        Check.refused(y, "type(128): BAD and FULL", () -> y.type(128), Check.BAD);
        Check.refused(y, "type(-1): BAD and FULL", () -> y.type(-1), Check.BAD);
    }

    /** What a refused call must not touch and no digest tells: the text's bytes, and the states. */
    private static void refusedChangesNothing() {
        Check.sentence("Refused (any call, getters, too), changing nothing but how often");
        for (int call = 0; call < 30; call++) {
            RoomRing touched = busy();
            RoomRing other = busy();
            int why = refusedCall(touched, call).getAsInt();
            Check.due("refused call " + call, why == Check.BAD || why == Check.NO || why == Check.FULL ? 1 : 0, 1);
            Check.due("all right behind refused call " + call, Check.allButTold(touched), Check.allButTold(other));
            for (int left = 4; left >= 0; left--) {
                Check.due("back() behind refused call " + call, touched.back(), left);
                other.back();
                Check.due("all behind refused call " + call, Check.allButTold(touched), Check.allButTold(other));
            }
            Check.due("does() behind refused call " + call, touched.does(), 4);
            other.does();
            Check.due("all by does() behind refused call " + call, Check.allButTold(touched), Check.allButTold(other));
        }
    }

    /** Five states to go back to, forty keys, six hosts, a text of 120 bytes; the last call moved keys. */
    private static RoomRing busy() {
        RoomRing x = Check.keysUpTo(Check.hosts(0, 1, 19, 2, 38, 1, 57, 4, 76, 1, 95, 3), 40);
        x.back();
        x.back();
        x.back();
        x.key(202);
        x.key(404);
        x.extra(0);
        x.back();
        x.key(303);
        x.goes(19);
        x.back();
        x.weighs(57, 1);
        Check.write(x, "e200;g76;h77 4;k999;" + " ".repeat(100));
        return x;
    }

    private static IntSupplier refusedCall(RoomRing x, int call) {
        IntSupplier[] calls = {
            () -> x.host(1, 5), () -> x.host(0, 2), () -> x.host(1, 2), () -> x.weighs(0, 0), () -> x.weighs(1, 1),
            () -> x.goes(100), () -> x.goes(1), () -> x.key(1000), () -> x.key(202), () -> x.key(500),
            () -> x.drops(-1), () -> x.drops(500), () -> x.extra(201), () -> x.of(0, 43), () -> x.of(1, 0),
            () -> x.mark(0, 8), () -> x.mark(1, 0), () -> x.at(101), () -> x.name(-1), () -> x.share(1),
            () -> x.has(500), () -> x.about(0, 3), () -> x.would(202), () -> x.would(500), () -> x.without(1),
            () -> x.count(9), () -> x.type(128), () -> x.type(59), () -> x.told(5), () -> x.without(-1)};
        return calls[call];
    }

    private static void refusedAsOftenAsCalled() {
        Check.sentence("22: How often refused: BAD (0), NO (1), FULL (2), to the 512th call");
        RoomRing x = Check.ringOf("x".repeat(120));
        for (int i = 0; i < 130; i++) {
            x.at(101);
            x.goes(5);
            if (i < 120) {
                x.type(5);
            }
        }
        Check.due("told(0)", x.told(0), 130);
        Check.due("told(1)", x.told(1), 130);
        Check.due("told(2)", x.told(2), 120);
    }
}
