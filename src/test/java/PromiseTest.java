/** One method for each promise of the document, with answers worked out by hand. */
public final class PromiseTest {
    private static int wrong = 0;

    private static void due(int promise, String call, long got, long want) {
        if (got != want) {
            wrong++;
            System.out.println("promise " + promise + ": " + call + " answered " + got + ", due is " + want);
        }
    }

    public static void main(String[] args) {
        newObject();
        host();
        marksThatMeet();
        weighs();
        goes();
        key();
        laying();
        bounds();
        drops();
        extra();
        of();
        mark();
        at();
        name();
        share();
        has();
        about();
        would();
        without();
        count();
        type();
        clear();
        doesInOrder();
        doesFaults();
        doesRefusals();
        doesMovedOnce();
        back();
        backLosesOldest();
        told();
        digest();
        System.out.println(wrong == 0 ? "all answers are as due" : wrong + " answers are not as due");
        if (wrong != 0) {
            System.exit(1);
        }
    }

    /** Host 0 has marks at 5, 34; host 10 at 11, 40, 69, 98; EXTRA is 0. */
    private static RoomRing twoHosts() {
        RoomRing x = new RoomRing();
        x.extra(0);
        x.host(0, 1);
        x.host(10, 2);
        return x;
    }

    /** Three keys at place 17, with bounds 1 and 2: key 0 at host 0, keys 101, 202 at host 10. */
    private static RoomRing threeKeys() {
        RoomRing x = twoHosts();
        x.key(202);
        x.key(0);
        x.key(101);
        return x;
    }

    private static RoomRing withText(String text) {
        RoomRing x = new RoomRing();
        write(x, text);
        return x;
    }

    private static void write(RoomRing x, String text) {
        x.clear();
        for (int i = 0; i < text.length(); i++) {
            x.type(text.charAt(i));
        }
    }

    private static void newObject() {
        RoomRing x = new RoomRing();
        int[] counts = {0, 0, 25, 0, 0, 0, 0, 0, 0};
        for (int what = 0; what < counts.length; what++) {
            due(1, "count(" + what + ")", x.count(what), counts[what]);
        }
        for (int what = 0; what < 5; what++) {
            due(1, "told(" + what + ")", x.told(what), 0);
        }
        for (int place = 0; place < 101; place++) {
            due(1, "at(" + place + ")", x.at(place), RoomRing.NONE);
        }
        due(1, "name(0)", x.name(0), RoomRing.NONE);
        due(1, "back()", x.back(), RoomRing.NO);
    }

    private static void host() {
        RoomRing x = new RoomRing();
        x.key(0);
        x.key(101);
        due(2, "host(99, 4) moves both from none", x.host(99, 4), 2);
        due(2, "count(4)", x.count(4), 2);
        due(2, "host(-1, 1)", x.host(-1, 1), RoomRing.BAD);
        due(2, "host(100, 1)", x.host(100, 1), RoomRing.BAD);
        due(2, "host(1, 0)", x.host(1, 0), RoomRing.BAD);
        due(2, "host(1, 5)", x.host(1, 5), RoomRing.BAD);
        due(2, "host(MIN, MAX)", x.host(Integer.MIN_VALUE, Integer.MAX_VALUE), RoomRing.BAD);
        due(2, "host(99, 0): BAD is the first", x.host(99, 0), RoomRing.BAD);
        due(2, "host(99, 1) again", x.host(99, 1), RoomRing.NO);
        due(2, "of(99, 0) stays", x.of(99, 0), 4);
        due(2, "told(4): refused ones leave none", x.told(4), 3);
        for (int n = 0; n < 5; n++) {
            x.host(n, 1);
        }
        due(2, "count(0)", x.count(0), 6);
        due(2, "host(50, 1) as the seventh", x.host(50, 1), RoomRing.FULL);
        due(2, "host(99, 1): NO is ahead of FULL", x.host(99, 1), RoomRing.NO);
        due(2, "host(50, 5): BAD is ahead of FULL", x.host(50, 5), RoomRing.BAD);
        due(2, "count(0)", x.count(0), 6);
    }

    private static void marksThatMeet() {
        RoomRing x = new RoomRing();
        x.host(19, 2);
        due(2, "mark(19, 1) alone", x.mark(19, 1), 5);
        x.host(0, 1);
        due(2, "mark(0, 0): the lower name is first", x.mark(0, 0), 5);
        due(2, "mark(0, 1)", x.mark(0, 1), 34);
        due(2, "mark(19, 0)", x.mark(19, 0), 77);
        due(2, "mark(19, 1) goes on", x.mark(19, 1), 6);
        due(2, "mark(19, 2) goes on", x.mark(19, 2), 35);
        due(2, "mark(19, 3)", x.mark(19, 3), 63);
        RoomRing y = new RoomRing();
        y.host(91, 1);
        due(2, "mark(91, 0) alone", y.mark(91, 0), 100);
        y.host(9, 1);
        due(2, "mark(9, 1)", y.mark(9, 1), 100);
        due(2, "mark(91, 0): behind 100 comes 0", y.mark(91, 0), 0);
        due(2, "mark(91, 1)", y.mark(91, 1), 28);
    }

    private static void weighs() {
        RoomRing x = threeKeys();
        due(3, "weighs(0, 2)", x.weighs(0, 2), 1);
        due(3, "has(101)", x.has(101), 0);
        due(3, "of(0, 0)", x.of(0, 0), 2);
        due(3, "mark(0, 3)", x.mark(0, 3), 92);
        due(3, "count(8)", x.count(8), 4);
        due(3, "weighs(0, 2) again", x.weighs(0, 2), 0);
        due(3, "weighs(0, 0)", x.weighs(0, 0), RoomRing.BAD);
        due(3, "weighs(0, 5)", x.weighs(0, 5), RoomRing.BAD);
        due(3, "weighs(-1, 1)", x.weighs(-1, 1), RoomRing.BAD);
        due(3, "weighs(100, 1)", x.weighs(100, 1), RoomRing.BAD);
        due(3, "weighs(1, 1)", x.weighs(1, 1), RoomRing.NO);
        due(3, "weighs(1, 9): BAD is the first", x.weighs(1, 9), RoomRing.BAD);
        due(3, "of(0, 0)", x.of(0, 0), 2);
    }

    private static void goes() {
        RoomRing x = threeKeys();
        due(4, "goes(0)", x.goes(0), 1);
        due(4, "has(0)", x.has(0), 10);
        due(4, "name(0)", x.name(0), 10);
        due(4, "name(1)", x.name(1), RoomRing.NONE);
        due(4, "mark(10, 1)", x.mark(10, 1), 40);
        due(4, "goes(0) again", x.goes(0), RoomRing.NO);
        due(4, "goes(-1)", x.goes(-1), RoomRing.BAD);
        due(4, "goes(100)", x.goes(100), RoomRing.BAD);
        due(4, "goes(10): all go to none", x.goes(10), 3);
        due(4, "has(0)", x.has(0), RoomRing.NONE);
        due(4, "count(4)", x.count(4), 3);
        RoomRing y = new RoomRing();
        for (int n = 0; n < 6; n++) {
            y.host(n, 1 + n % 4);
        }
        y.goes(2);
        due(4, "of(3, 0) stays", y.of(3, 0), 4);
        due(4, "of(5, 0) stays", y.of(5, 0), 2);
        due(4, "of(1, 0) stays", y.of(1, 0), 2);
        due(4, "goes(5), the last by names", y.goes(5), 0);
        due(4, "count(0)", y.count(0), 4);
    }

    private static void key() {
        RoomRing x = new RoomRing();
        due(5, "key(999), no hosts", x.key(999), RoomRing.NONE);
        due(5, "key(999) again", x.key(999), RoomRing.NO);
        due(5, "key(-1)", x.key(-1), RoomRing.BAD);
        due(5, "key(1000)", x.key(1000), RoomRing.BAD);
        for (int k = 0; k < 38; k++) {
            x.key(k);
        }
        due(5, "key(38) as the fortieth", x.key(38), RoomRing.NONE);
        due(5, "key(39) as one more", x.key(39), RoomRing.FULL);
        due(5, "key(38): NO is ahead of FULL", x.key(38), RoomRing.NO);
        due(5, "key(-1): BAD is ahead of FULL", x.key(-1), RoomRing.BAD);
        due(5, "count(1)", x.count(1), 40);
        due(5, "told(2)", x.told(2), 1);
        x.host(7, 1);
        due(5, "of(7, 1): 40 and a quarter", x.of(7, 1), 50);
        due(5, "of(7, 42), the fortieth key", x.of(7, 42), 999);
    }

    private static void laying() {
        RoomRing x = twoHosts();
        due(5, "key(202) alone, bounds 1 and 1", x.key(202), 0);
        due(5, "key(0) is laid ahead of 202", x.key(0), 0);
        due(5, "count(4): 202 moved", x.count(4), 1);
        due(5, "key(101)", x.key(101), 10);
        due(5, "has(202)", x.has(202), 10);
        due(5, "of(0, 1)", x.of(0, 1), 1);
        due(5, "of(10, 1)", x.of(10, 1), 2);
        due(5, "key(303), bounds 2 and 3", x.key(303), 10);
        due(5, "count(4): 101 moved", x.count(4), 1);
        due(5, "has(101)", x.has(101), 0);
        RoomRing y = new RoomRing();
        y.host(0, 1);
        due(5, "key(76) at a mark", y.key(76), 0);
        due(5, "about(76, 2)", y.about(76, 2), 0);
        due(5, "key(13) at place 100", y.key(13), 0);
        due(5, "about(13, 2): on past 100", y.about(13, 2), 6);
    }

    private static void bounds() {
        RoomRing x = twoHosts();
        for (int k = 0; k < 6; k++) {
            x.key(k);
        }
        due(5, "of(0, 1): 6 / 3, nothing to round", x.of(0, 1), 2);
        due(5, "of(10, 1)", x.of(10, 1), 4);
        x.key(6);
        due(5, "of(0, 1): 7 / 3", x.of(0, 1), 3);
        due(5, "of(10, 1): 14 / 3", x.of(10, 1), 5);
        x.extra(1);
        due(5, "of(0, 1): 7.07 / 3", x.of(0, 1), 3);
        x.extra(200);
        due(5, "of(0, 1): 21 / 3", x.of(0, 1), 7);
        due(5, "of(10, 1): 42 / 3", x.of(10, 1), 14);
        RoomRing y = new RoomRing();
        y.host(1, 1);
        y.host(2, 4);
        y.host(3, 4);
        y.host(4, 4);
        for (int k = 0; k < 27; k++) {
            y.key(k);
        }
        y.extra(45);
        due(5, "of(1, 1): 39.15 / 13, hardly above 3", y.of(1, 1), 4);
        y.extra(44);
        due(5, "of(1, 1): 38.88 / 13, hardly below 3", y.of(1, 1), 3);
    }

    private static void drops() {
        RoomRing x = threeKeys();
        x.key(303);
        due(6, "drops(303): 101 moves", x.drops(303), 1);
        due(6, "has(101)", x.has(101), 10);
        due(6, "drops(303) again", x.drops(303), RoomRing.NO);
        due(6, "drops(-1)", x.drops(-1), RoomRing.BAD);
        due(6, "drops(1000)", x.drops(1000), RoomRing.BAD);
        due(6, "drops(0): 101 takes its room", x.drops(0), 1);
        due(6, "has(101)", x.has(101), 0);
        due(6, "count(1)", x.count(1), 2);
        due(6, "drops(101)", x.drops(101), 1);
        due(6, "drops(202), the last", x.drops(202), 0);
        due(6, "count(1)", x.count(1), 0);
        RoomRing y = new RoomRing();
        for (int k = 0; k < 40; k++) {
            y.key(k);
        }
        due(6, "drops(0) of 40", y.drops(0), 0);
        due(6, "drops(39)", y.drops(39), 0);
        due(6, "has(38)", y.has(38), RoomRing.NONE);
        due(6, "count(1)", y.count(1), 38);
    }

    private static void extra() {
        RoomRing x = threeKeys();
        due(7, "extra(50)", x.extra(50), 1);
        due(7, "has(101)", x.has(101), 0);
        due(7, "count(2)", x.count(2), 50);
        due(7, "extra(200)", x.extra(200), 1);
        due(7, "has(202)", x.has(202), 0);
        due(7, "extra(0)", x.extra(0), 2);
        due(7, "extra(-1)", x.extra(-1), RoomRing.BAD);
        due(7, "extra(201)", x.extra(201), RoomRing.BAD);
        due(7, "count(2)", x.count(2), 0);
        due(7, "told(0)", x.told(0), 2);
    }

    private static void of() {
        RoomRing x = threeKeys();
        int[] facts = {2, 2, 2, 101, 202, RoomRing.NONE};
        for (int what = 0; what < facts.length; what++) {
            due(8, "of(10, " + what + ")", x.of(10, what), facts[what]);
        }
        due(8, "of(0, 3)", x.of(0, 3), 0);
        due(8, "of(0, 4)", x.of(0, 4), RoomRing.NONE);
        due(8, "of(0, 42)", x.of(0, 42), RoomRing.NONE);
        due(8, "of(0, 43)", x.of(0, 43), RoomRing.BAD);
        due(8, "of(0, -1)", x.of(0, -1), RoomRing.BAD);
        due(8, "of(-1, 0)", x.of(-1, 0), RoomRing.BAD);
        due(8, "of(100, 0)", x.of(100, 0), RoomRing.BAD);
        due(8, "of(1, 0)", x.of(1, 0), RoomRing.NO);
        due(8, "of(1, 43): BAD is the first", x.of(1, 43), RoomRing.BAD);
        due(8, "told(0)", x.told(0), 5);
        due(8, "told(1)", x.told(1), 1);
    }

    private static void mark() {
        RoomRing x = twoHosts();
        int[] places = {11, 40, 69, 98, RoomRing.NONE, RoomRing.NONE, RoomRing.NONE, RoomRing.NONE};
        for (int j = 0; j < places.length; j++) {
            due(9, "mark(10, " + j + ")", x.mark(10, j), places[j]);
        }
        due(9, "mark(10, 8)", x.mark(10, 8), RoomRing.BAD);
        due(9, "mark(10, -1)", x.mark(10, -1), RoomRing.BAD);
        due(9, "mark(-1, 0)", x.mark(-1, 0), RoomRing.BAD);
        due(9, "mark(100, 0)", x.mark(100, 0), RoomRing.BAD);
        due(9, "mark(1, 7)", x.mark(1, 7), RoomRing.NO);
        due(9, "mark(1, 8): BAD is the first", x.mark(1, 8), RoomRing.BAD);
        due(9, "told(0)", x.told(0), 5);
        due(9, "told(1)", x.told(1), 1);
        x.weighs(0, 4);
        due(9, "mark(0, 7): 5 + 203 by 101", x.mark(0, 7), 6);
    }

    private static void at() {
        RoomRing x = twoHosts();
        due(10, "at(5)", x.at(5), 0);
        due(10, "at(11)", x.at(11), 10);
        due(10, "at(98)", x.at(98), 10);
        due(10, "at(0)", x.at(0), RoomRing.NONE);
        due(10, "at(100)", x.at(100), RoomRing.NONE);
        due(10, "at(-1)", x.at(-1), RoomRing.BAD);
        due(10, "at(101)", x.at(101), RoomRing.BAD);
        due(10, "told(0)", x.told(0), 2);
        x.goes(0);
        due(10, "at(5) without its host", x.at(5), RoomRing.NONE);
        due(10, "at(11)", x.at(11), 10);
    }

    private static void name() {
        RoomRing x = new RoomRing();
        int[] names = {50, 3, 99, 0, 70, 20};
        for (int n : names) {
            x.host(n, 1);
        }
        int[] rising = {0, 3, 20, 50, 70, 99, RoomRing.NONE};
        for (int i = 0; i < rising.length; i++) {
            due(11, "name(" + i + ")", x.name(i), rising[i]);
        }
        due(11, "name(MAX)", x.name(Integer.MAX_VALUE), RoomRing.NONE);
        due(11, "name(-1)", x.name(-1), RoomRing.BAD);
        due(11, "name(MIN)", x.name(Integer.MIN_VALUE), RoomRing.BAD);
        due(11, "told(0)", x.told(0), 2);
    }

    private static void share() {
        RoomRing x = new RoomRing();
        x.host(0, 1);
        due(12, "share(0) alone", x.share(0), 101);
        x.host(10, 2);
        due(12, "share(0): 99 to 5, 12 to 34", x.share(0), 31);
        due(12, "share(10)", x.share(10), 70);
        due(12, "share(1)", x.share(1), RoomRing.NO);
        due(12, "share(-1)", x.share(-1), RoomRing.BAD);
        due(12, "share(100)", x.share(100), RoomRing.BAD);
        due(12, "told(0)", x.told(0), 2);
        due(12, "told(1)", x.told(1), 1);
        RoomRing y = new RoomRing();
        y.host(9, 1);
        y.host(91, 1);
        due(12, "share(91): 0, 1 to 28", y.share(91), 29);
        due(12, "share(9): 29 to 71, 72 to 100", y.share(9), 72);
    }

    private static void has() {
        RoomRing x = threeKeys();
        due(13, "has(0)", x.has(0), 0);
        due(13, "has(101)", x.has(101), 10);
        due(13, "has(1)", x.has(1), RoomRing.NO);
        due(13, "has(-1)", x.has(-1), RoomRing.BAD);
        due(13, "has(1000)", x.has(1000), RoomRing.BAD);
        due(13, "told(0)", x.told(0), 2);
        due(13, "told(1)", x.told(1), 1);
        x.goes(0);
        x.goes(10);
        due(13, "has(101), no hosts", x.has(101), RoomRing.NONE);
    }

    private static void about() {
        RoomRing x = threeKeys();
        int[][] facts = {{0, 17, 0, 17}, {101, 17, 1, 23}, {202, 17, 1, 23}};
        for (int[] fact : facts) {
            for (int what = 0; what < 3; what++) {
                due(14, "about(" + fact[0] + ", " + what + ")", x.about(fact[0], what), fact[what + 1]);
            }
        }
        due(14, "about(0, 3)", x.about(0, 3), RoomRing.BAD);
        due(14, "about(0, -1)", x.about(0, -1), RoomRing.BAD);
        due(14, "about(-1, 0)", x.about(-1, 0), RoomRing.BAD);
        due(14, "about(1000, 0)", x.about(1000, 0), RoomRing.BAD);
        due(14, "about(1, 0)", x.about(1, 0), RoomRing.NO);
        due(14, "about(1, 3): BAD is the first", x.about(1, 3), RoomRing.BAD);
        due(14, "told(0)", x.told(0), 5);
        due(14, "told(1)", x.told(1), 1);
        x.goes(0);
        x.goes(10);
        due(14, "about(101, 0), no hosts", x.about(101, 0), 17);
        due(14, "about(101, 1), no hosts", x.about(101, 1), RoomRing.NONE);
        due(14, "about(101, 2), no hosts", x.about(101, 2), RoomRing.NONE);
    }

    private static void would() {
        RoomRing x = threeKeys();
        long before = x.digest();
        due(15, "would(303), by the bounds of four keys", x.would(303), 10);
        due(15, "would(50), laid ahead of 101", x.would(50), 10);
        due(15, "digest(): nothing has changed", x.digest(), before);
        due(15, "would(101)", x.would(101), RoomRing.NO);
        due(15, "would(-1)", x.would(-1), RoomRing.BAD);
        due(15, "would(1000)", x.would(1000), RoomRing.BAD);
        due(15, "told(0)", x.told(0), 2);
        due(15, "told(1)", x.told(1), 1);
        RoomRing y = new RoomRing();
        due(15, "would(3), no hosts", y.would(3), RoomRing.NONE);
        for (int k = 0; k < 40; k++) {
            y.key(k);
        }
        due(15, "would(40), 40 keys", y.would(40), RoomRing.FULL);
        due(15, "would(39): NO is ahead of FULL", y.would(39), RoomRing.NO);
        due(15, "told(2)", y.told(2), 1);
    }

    private static void without() {
        RoomRing x = threeKeys();
        long before = x.digest();
        due(16, "without(0)", x.without(0), 1);
        due(16, "without(10)", x.without(10), 2);
        due(16, "digest(): nothing has changed", x.digest(), before);
        due(16, "without(1)", x.without(1), RoomRing.NO);
        due(16, "without(-1)", x.without(-1), RoomRing.BAD);
        due(16, "without(100)", x.without(100), RoomRing.BAD);
        x.goes(0);
        due(16, "without(10), the last host", x.without(10), 3);
        due(16, "told(0)", x.told(0), 2);
        due(16, "told(1)", x.told(1), 1);
    }

    private static void count() {
        RoomRing x = threeKeys();
        int[] counts = {2, 3, 0, 6, 0, 2, 2, 2, 3};
        for (int what = 0; what < counts.length; what++) {
            due(17, "count(" + what + ")", x.count(what), counts[what]);
        }
        due(17, "count(9)", x.count(9), RoomRing.BAD);
        due(17, "count(-1)", x.count(-1), RoomRing.BAD);
        due(17, "told(0)", x.told(0), 2);
        x.key(303);
        x.key(0);
        due(17, "count(4) behind a refused call", x.count(4), 1);
        due(17, "count(5), two of two, two of three", x.count(5), 1);
        due(17, "count(7)", x.count(7), 2);
        x.goes(0);
        x.goes(10);
        due(17, "count(6), keys but no hosts", x.count(6), 0);
        due(17, "count(7), keys but no hosts", x.count(7), 0);
        due(17, "count(5), keys but no hosts", x.count(5), 0);
        RoomRing y = twoHosts();
        due(17, "count(5): none is as many as a bound of 0", y.count(5), 2);
        RoomRing z = new RoomRing();
        z.host(0, 1);
        z.host(10, 2);
        z.key(0);
        due(17, "count(7), all at the first host", z.count(7), 1);
    }

    private static void type() {
        RoomRing x = new RoomRing();
        due(18, "type(-1)", x.type(-1), RoomRing.BAD);
        due(18, "type(128)", x.type(128), RoomRing.BAD);
        due(18, "type(0)", x.type(0), 1);
        due(18, "type(127)", x.type(127), 2);
        for (int i = 3; i <= 120; i++) {
            due(18, "type(32)", x.type(32), i);
        }
        due(18, "type(32), 120 are there", x.type(32), RoomRing.FULL);
        due(18, "type(128): BAD is ahead of FULL", x.type(128), RoomRing.BAD);
        due(18, "told(3)", x.told(3), 120);
        due(18, "told(0)", x.told(0), 3);
        due(18, "told(2)", x.told(2), 1);
        due(18, "told(4)", x.told(4), 0);
    }

    private static void clear() {
        RoomRing x = withText("k1;k2;");
        due(19, "clear()", x.clear(), 6);
        due(19, "told(3)", x.told(3), 0);
        due(19, "clear() again", x.clear(), 0);
        due(19, "does()", x.does(), -10);
        due(19, "type(107)", x.type('k'), 1);
    }

    private static void doesInOrder() {
        RoomRing x = withText(" h 0 1;h010  2 ; k 0;k101;k202 ;d202;g 10;w0 3;e 9; ");
        due(20, "does()", x.does(), 9);
        due(20, "told(3): the text stays", x.told(3), 52);
        due(20, "told(4): one state for all", x.told(4), 1);
        due(20, "count(0)", x.count(0), 1);
        due(20, "count(1)", x.count(1), 2);
        due(20, "count(2)", x.count(2), 9);
        due(20, "of(0, 0)", x.of(0, 0), 3);
        due(20, "has(101)", x.has(101), 0);
        due(20, "back()", x.back(), 0);
        due(20, "count(0) again", x.count(0), 0);
        due(20, "count(2) again", x.count(2), 25);
        RoomRing y = withText("k1;d1;".repeat(20));
        due(20, "told(3)", y.told(3), 120);
        due(20, "does(), forty orders", y.does(), 40);
    }

    private static void doesFaults() {
        String[] texts = {"", "   ", "k", "k1", "h1 2", "h1 ", "k1;k", "k1; k 12 ", "h12;", "h1;", "k1234;",
            "h1 2345;", "k1 2;", "h1 2 3;", "kk1;", ";", " ;", "k1;;", "k1;x", "K1;", "k-1;", "k1\t;", "k1,",
            "12;", "k;", "h;", "k1;k1;x", "h100 9;k", "k1 ;e2g", "x", "k1\u0000", "k 0001;"};
        int[] places = {0, 3, 1, 2, 4, 3, 4, 9, 3, 2, 4,
            6, 3, 5, 1, 0, 1, 3, 3, 0, 1, 2, 2,
            0, 1, 1, 6, 8, 6, 0, 2, 5};
        for (int i = 0; i < texts.length; i++) {
            RoomRing x = withText(texts[i]);
            due(20, "does() of \"" + texts[i] + "\"", x.does(), -10 - places[i]);
            due(20, "told(4)", x.told(4), 0);
            due(20, "count(1)", x.count(1), 0);
            due(20, "told(0)", x.told(0), 0);
        }
    }

    private static void doesRefusals() {
        String[] texts = {"k1;k1;", "h100 1;", "k7;h1 0;", "h1 5;", "e201;", "k1;d1;d1;", "g5;", "g100;", "w5 1;",
            "h5 1;w5 9;", "h1 1;h2 1;h3 1;h4 1;h5 1;h6 1;h7 1;", "h1 1;h1 1;", "d5;", "e1;g999;"};
        int[] numbers = {1, 0, 1, 0, 0, 2, 0, 0, 0, 1, 6, 1, 0, 1};
        for (int i = 0; i < texts.length; i++) {
            RoomRing x = withText(texts[i]);
            long before = x.digest();
            due(20, "does() of \"" + texts[i] + "\"", x.does(), -1000 - numbers[i]);
            due(20, "digest(): nothing is done or counted", x.digest(), before);
        }
        RoomRing x = withText("k900;k901;k902;");
        for (int k = 0; k < 38; k++) {
            x.key(k);
        }
        due(20, "does() with a key too many", x.does(), -1002);
        due(20, "told(2)", x.told(2), 0);
        due(20, "count(1)", x.count(1), 38);
    }

    private static void doesMovedOnce() {
        RoomRing x = threeKeys();
        write(x, "g10;h10 2;d101;k101;k303;d303;");
        due(20, "does()", x.does(), 6);
        due(20, "count(4): all is as ahead", x.count(4), 0);
        write(x, "g0;d202;k1;");
        due(20, "does()", x.does(), 3);
        due(20, "count(4): 0 moves, 202 is gone, 1 is new", x.count(4), 1);
    }

    private static void back() {
        RoomRing x = threeKeys();
        due(21, "told(4)", x.told(4), 5);
        x.goes(0);
        due(21, "count(4)", x.count(4), 1);
        due(21, "back()", x.back(), 4);
        due(21, "count(4): MOVED is back, too", x.count(4), 0);
        due(21, "has(0)", x.has(0), 0);
        due(21, "at(5): the marks are back", x.at(5), 0);
        due(21, "of(0, 1): the bounds are back", x.of(0, 1), 1);
        due(21, "back()", x.back(), 3);
        due(21, "has(101) did not come yet", x.has(101), RoomRing.NO);
        due(21, "count(4)", x.count(4), 1);
        due(21, "key(101)", x.key(101), 10);
        due(21, "told(4)", x.told(4), 4);
        RoomRing y = withText("k1;");
        y.extra(25);
        due(21, "told(4): also if nothing becomes other", y.told(4), 1);
        y.key(-1);
        due(21, "back()", y.back(), 0);
        due(21, "told(0) stays", y.told(0), 1);
        due(21, "told(3) stays", y.told(3), 3);
        due(21, "back(), none", y.back(), RoomRing.NO);
        due(21, "told(1)", y.told(1), 1);
    }

    private static void backLosesOldest() {
        RoomRing x = new RoomRing();
        for (int e = 1; e <= 9; e++) {
            x.extra(e);
        }
        due(21, "told(4)", x.told(4), 5);
        for (int left = 4; left >= 0; left--) {
            due(21, "back()", x.back(), left);
            due(21, "count(2)", x.count(2), 4 + left);
        }
        due(21, "back()", x.back(), RoomRing.NO);
        due(21, "count(2)", x.count(2), 4);
    }

    private static void told() {
        RoomRing x = new RoomRing();
        x.has(-1);
        x.has(1);
        x.has(2);
        for (int n = 0; n < 9; n++) {
            x.host(n, 1);
        }
        x.type(120);
        int[] tolds = {1, 2, 3, 1, 5};
        for (int what = 0; what < tolds.length; what++) {
            due(22, "told(" + what + ")", x.told(what), tolds[what]);
        }
        due(22, "told(5)", x.told(5), RoomRing.BAD);
        due(22, "told(-1)", x.told(-1), RoomRing.BAD);
        due(22, "told(0)", x.told(0), 3);
    }

    private static void digest() {
        long h = 2820;
        int[] tolds = {0, 0, 0, 0, 0, 0, 0, 25, 0, 0, 0, 0, 0, 0};
        for (int v : tolds) {
            h = 31 * h + v;
        }
        for (int place = 0; place < 101; place++) {
            h = 31 * h - 1;
        }
        due(23, "digest() of a new object", new RoomRing().digest(), h);

        RoomRing x = threeKeys();
        x.type(32);
        h = 2820;
        int[] counts = {0, 0, 0, 1, 5, 2, 3, 0, 6, 0, 2, 2, 2, 3};
        for (int v : counts) {
            h = 31 * h + v;
        }
        for (int place = 0; place < 101; place++) {
            boolean ofTen = place == 11 || place == 40 || place == 69 || place == 98;
            h = 31 * h + (place == 5 || place == 34 ? 0 : ofTen ? 10 : -1);
        }
        int[] rest = {0, 1, 1, 1, 10, 2, 2, 2, 0, 0, 17, 0, 17, 101, 10, 17, 1, 23, 202, 10, 17, 1, 23};
        for (int v : rest) {
            h = 31 * h + v;
        }
        due(23, "digest()", x.digest(), h);
        due(23, "digest() again", x.digest(), h);
    }
}
