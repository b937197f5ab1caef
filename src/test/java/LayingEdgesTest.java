/**
 * The ring, its marks, the bounds and how keys are laid, at their edges: none, one and as many as
 * there may be, behind place 100, at the last room of a host; answers worked out by hand.
 */
public final class LayingEdgesTest {
    public static void main(String[] args) {
        noHostsNoKeys();
        behindTheLastPlace();
        marksOfEachWeight();
        marksThatMeet();
        asManyMarksAsThereMayBe();
        marksByRisingNames();
        namesByRising();
        hostsThatStay();
        placesOfKeys();
        shares();
        boundsRoundedUp();
        boundsOfNoneAndAll();
        laidFromItsPlace();
        laidOnceRound();
        laidByRisingNumbers();
        laidWhileThereIsRoom();
        laidToNone();
        laidAnewByEveryCall();
        movedFromAndToNone();
        movedOfThoseThatWereAndAre();
        passed();
        fullHosts();
        mostKeysOfOneHost();
        keysOfHost();
        wouldAsKey();
        withoutAsGoes();
        countsOfRefused();
        Check.end();
    }

    private static void noHostsNoKeys() {
        Check.sentence("1: As told; no HOSTS, no KEYS");
        RoomRing x = new RoomRing();
        for (int what = 0; what <= 8; what++) {
            Check.due("count(" + what + ")", x.count(what), what == 2 ? 25 : 0);
        }
        for (int what = 0; what <= 4; what++) {
            Check.due("told(" + what + ")", x.told(what), 0);
        }
        for (int place = 0; place <= 100; place++) {
            Check.due("at(" + place + ")", x.at(place), Check.NONE);
        }
        Check.due("name(0)", x.name(0), Check.NONE);
        Check.due("does(): THE TEXT is empty", x.does(), -10);
        Check.due("clear()", x.clear(), 0);
        Check.sentence("1: one object is not another");
        RoomRing y = new RoomRing();
        y.host(1, 1);
        y.key(1);
        y.type(1);
        y.at(-1);
        Check.due("digest()", x.digest(), new RoomRing().digest());
    }

    private static void behindTheLastPlace() {
        Check.sentence("A RING of 101 PLACES (0 .. 100, behind 100 comes 0)");
        RoomRing x = Check.hosts(9, 1);
        Check.due("mark(9, 1)", x.mark(9, 1), 100);
        Check.due("at(100)", x.at(100), 9);
        Check.due("at(0)", x.at(0), Check.NONE);
        x.host(91, 1);
        Check.due("mark(91, 0), one behind 100", x.mark(91, 0), 0);
        Check.due("at(0)", x.at(0), 91);
        x.host(59, 1);
        Check.due("mark(59, 0), a lower name", x.mark(59, 0), 0);
        Check.due("mark(91, 0), two behind 100", x.mark(91, 0), 1);
        Check.due("at(100)", x.at(100), 9);
        Check.due("at(0)", x.at(0), 59);
        Check.due("at(1)", x.at(1), 91);
        x.goes(9);
        Check.due("mark(91, 0), 100 has none again", x.mark(91, 0), 100);
        Check.due("at(1)", x.at(1), Check.NONE);
    }

    private static void marksOfEachWeight() {
        Check.sentence("MARKS: j from 0 to 2 WEIGHT - 1: the PLACE (41 NAME + 29 j + 5) by 101; 9: NONE: not so many");
        for (int n = 0; n <= 99; n++) {
            RoomRing x = Check.hosts(n, 1);
            for (int w = 1; w <= 4; w++) {
                x.weighs(n, w);
                Check.due("count(3)", x.count(3), 2 * w);
                for (int j = 0; j <= 7; j++) {
                    int place = (41 * n + 29 * j + 5) % 101;
                    boolean there = j < 2 * w;
                    Check.due("mark(" + n + ", " + j + ") of weight " + w, x.mark(n, j), there ? place : Check.NONE);
                    Check.due("at(" + place + ") of weight " + w, x.at(place), there ? n : Check.NONE);
                }
            }
        }
    }

    private static void marksThatMeet() {
        Check.sentence("if it has a MARK already, the next one on that has none");
        RoomRing x = Check.hosts(0, 2, 82, 1);
        Check.due("mark(82, 0) behind 34", x.mark(82, 0), 35);
        Check.due("mark(82, 1) behind 63", x.mark(82, 1), 64);
        Check.due("at(34)", x.at(34), 0);
        Check.due("at(35)", x.at(35), 82);
        int[][] places = {
            {5, 34, 63, 92, 20, 49, 78, 6}, {77, 7, 35, 64, 93, 21, 50, 79}, {48, 80, 8, 36, 65, 94, 22, 51},
            {19, 52, 81, 9, 37, 66, 95, 23}, {91, 24, 53, 82, 10, 38, 67, 96}, {62, 97, 25, 54, 83, 11, 39, 68}};
        RoomRing y = Check.hosts(0, 4, 19, 4, 38, 4, 57, 4, 76, 4, 95, 4);
        for (int i = 0; i < 6; i++) {
            for (int j = 0; j < 8; j++) {
                Check.due("mark(" + 19 * i + ", " + j + "), up to five on", y.mark(19 * i, j), places[i][j]);
            }
        }
        Check.sentence("MARKS are set anew when a HOST weighs otherwise or goes");
        x.weighs(0, 1);
        Check.due("mark(82, 0)", x.mark(82, 0), 35);
        Check.due("mark(82, 1), 63 has none", x.mark(82, 1), 63);
        x.goes(0);
        Check.due("mark(82, 0), 34 has none", x.mark(82, 0), 34);
        Check.due("at(35)", x.at(35), Check.NONE);
    }

    private static void asManyMarksAsThereMayBe() {
        Check.sentence("10: The NAME of the HOST with a MARK at a PLACE; NONE: 48 MARKS on 48 PLACES");
        RoomRing x = Check.hosts(95, 4, 76, 4, 57, 4, 38, 4, 19, 4, 0, 4);
        int[] marks = new int[100];
        int none = 0;
        for (int place = 0; place <= 100; place++) {
            int n = x.at(place);
            if (n == Check.NONE) {
                none++;
            } else {
                marks[n]++;
            }
        }
        Check.due("PLACES without a MARK", none, 53);
        for (int n = 0; n <= 95; n += 19) {
            Check.due("MARKS of " + n, marks[n], 8);
        }
        Check.due("count(3)", x.count(3), 48);
    }

    private static void marksByRisingNames() {
        Check.sentence("MARKS: for HOSTS by rising NAMES, not as they came");
        RoomRing rising = Check.hosts(0, 2, 19, 2, 38, 2, 82, 1);
        RoomRing falling = Check.hosts(82, 1, 38, 2, 19, 2, 0, 2);
        RoomRing mixed = Check.hosts(38, 2, 82, 1, 0, 2, 19, 2);
        for (int place = 0; place <= 100; place++) {
            Check.due("at(" + place + "), falling", falling.at(place), rising.at(place));
            Check.due("at(" + place + "), mixed", mixed.at(place), rising.at(place));
        }
        Check.due("mark(0, 0)", falling.mark(0, 0), 5);
        Check.due("mark(19, 1)", falling.mark(19, 1), 6);
        Check.due("mark(38, 2)", falling.mark(38, 2), 7);
    }

    private static void namesByRising() {
        Check.sentence("11: The NAME of the i-th HOST by rising NAMES (0 on); NONE: not so many");
        RoomRing x = new RoomRing();
        Check.due("name(0), none", x.name(0), Check.NONE);
        x.host(50, 1);
        Check.due("name(0), one", x.name(0), 50);
        Check.due("name(1), one", x.name(1), Check.NONE);
        x.host(99, 1);
        x.host(0, 1);
        int[] three = {0, 50, 99, Check.NONE};
        for (int i = 0; i < three.length; i++) {
            Check.due("name(" + i + "), three", x.name(i), three[i]);
        }
        x.goes(0);
        Check.due("name(0), the first went", x.name(0), 50);
        Check.due("name(1), the first went", x.name(1), 99);
        Check.due("name(2), the first went", x.name(2), Check.NONE);
    }

    private static void hostsThatStay() {
        Check.sentence("4: HOST n goes, the first, the last or one between; the others stay as they are");
        int[] weights = {4, 1, 3, 2, 4, 1};
        for (int gone = 0; gone < 6; gone++) {
            RoomRing x = Check.hosts(10, 4, 20, 1, 30, 3, 40, 2, 50, 4, 60, 1);
            x.goes(10 + 10 * gone);
            int index = 0;
            for (int i = 0; i < 6; i++) {
                if (i != gone) {
                    Check.due("name(" + index + ")", x.name(index), 10 + 10 * i);
                    Check.due("of(" + (10 + 10 * i) + ", 0)", x.of(10 + 10 * i, 0), weights[i]);
                    index++;
                }
            }
            Check.due("name(5)", x.name(5), Check.NONE);
            Check.due("count(8)", x.count(8), 15 - weights[gone]);
        }
        Check.sentence("6: KEY k goes, the first, the last or one between; the others stay");
        for (int gone = 0; gone < 40; gone++) {
            RoomRing x = Check.keysUpTo(Check.hosts(7, 1), 40);
            x.drops(gone);
            for (int i = 0; i < 39; i++) {
                Check.due("of(7, " + (3 + i) + ")", x.of(7, 3 + i), i < gone ? i : i + 1);
            }
            Check.due("of(7, 42)", x.of(7, 42), Check.NONE);
        }
    }

    private static void placesOfKeys() {
        Check.sentence("the PLACE of a KEY: (53 KEY + 17) by 101, what is left over");
        for (int from = 0; from < 1000; from += 40) {
            RoomRing x = new RoomRing();
            for (int k = from; k < from + 40; k++) {
                x.key(k);
                Check.due("about(" + k + ", 0)", x.about(k, 0), (53 * k + 17) % 101);
            }
        }
        RoomRing x = Check.keys(new RoomRing(), 74, 13, 114);
        Check.due("about(74, 0), the first place", x.about(74, 0), 0);
        Check.due("about(13, 0), the last place", x.about(13, 0), 100);
        Check.due("about(114, 0), once more", x.about(114, 0), 100);
    }

    private static void shares() {
        Check.sentence("12: How many PLACES lead to HOST n first: from which on the first MARK is one of its");
        Check.due("share(0) alone", Check.hosts(0, 1).share(0), 101);
        Check.due("share(99) alone", Check.hosts(99, 4).share(99), 101);
        RoomRing x = Check.hosts(0, 2, 82, 1);
        Check.due("share(82): each mark right behind another", x.share(82), 2);
        Check.due("share(0)", x.share(0), 99);
        RoomRing y = Check.hosts(9, 1, 59, 1, 91, 1);
        Check.due("share(9): 30 to 71, 72 to 100", y.share(9), 71);
        Check.due("share(59): 0, 29", y.share(59), 2);
        Check.due("share(91): 1, 2 to 28", y.share(91), 28);
        RoomRing last = Check.hosts(0, 1, 59, 1);
        Check.due("share(59): 0, 6 to 29, 35 to 100 round to 0", last.share(59), 91);
        Check.due("share(0): 1 to 5, 30 to 34", last.share(0), 10);
        RoomRing z = Check.hosts(0, 1, 10, 2);
        Check.due("share(0): 99, 100, 0 to 5; 12 to 34", z.share(0), 31);
        Check.due("share(10)", z.share(10), 70);
        Check.sentence("12: FIRST, room or none");
        z.extra(0);
        Check.keys(z, 0, 101, 202);
        Check.due("share(0) while full", z.share(0), 31);
        RoomRing all = Check.hosts(0, 4, 19, 4, 38, 4, 57, 4, 76, 4, 95, 4);
        int sum = 0;
        for (int n = 0; n <= 95; n += 19) {
            sum += all.share(n);
        }
        Check.due("all shares", sum, 101);
    }

    private static void boundsRoundedUp() {
        Check.sentence("BOUND: (KEYS) times WEIGHT times (100 + e), divided by (100 times the WEIGHTS of all), rounded up");
        int[][] hosts = {{1, 1}, {1, 4}, {1, 1, 2, 2}, {1, 4, 2, 3}, {1, 1, 2, 4, 3, 4, 4, 4}, {1, 4, 2, 4, 3, 4, 4, 4, 5, 4, 6, 3}};
        for (int[] pairs : hosts) {
            for (int keys : new int[] {1, 2, 3, 7, 23, 24, 39, 40}) {
                for (int from = 0; from <= 200; from += 51) {
                    boundsOf(pairs, keys, from, Math.min(200, from + 50));
                }
            }
        }
    }

    /** The least number that is not below the whole amount. */
    private static void boundsOf(int[] pairs, int keys, int from, int to) {
        RoomRing x = Check.keysUpTo(Check.hosts(pairs), keys);
        int weights = x.count(8);
        for (int e = from; e <= to; e++) {
            x.extra(e);
            for (int i = 0; i < pairs.length; i += 2) {
                int bound = 0;
                while (bound * 100 * weights < keys * pairs[i + 1] * (100 + e)) {
                    bound++;
                }
                Check.due("of(" + pairs[i] + ", 1) with EXTRA " + e + ", KEYS " + keys, x.of(pairs[i], 1), bound);
            }
        }
    }

    private static void boundsOfNoneAndAll() {
        Check.sentence("BOUND, with no KEYS, with one and with as many as there may be");
        RoomRing x = Check.hosts(0, 1, 10, 4);
        Check.due("of(0, 1), no keys", x.of(0, 1), 0);
        Check.due("of(10, 1), no keys", x.of(10, 1), 0);
        x.extra(0);
        x.key(5);
        Check.due("of(0, 1): a fifth", x.of(0, 1), 1);
        Check.due("of(10, 1): four fifths", x.of(10, 1), 1);
        x.key(6);
        x.key(7);
        x.key(8);
        x.key(9);
        Check.due("of(0, 1): one, nothing to round", x.of(0, 1), 1);
        Check.due("of(10, 1): four, nothing to round", x.of(10, 1), 4);
        x.extra(1);
        Check.due("of(0, 1): 1.01", x.of(0, 1), 2);
        Check.due("of(10, 1): 4.04", x.of(10, 1), 5);
        RoomRing y = Check.keysUpTo(Check.hosts(7, 4), 40);
        y.extra(200);
        Check.due("of(7, 1), the most there can be", y.of(7, 1), 120);
        y.extra(0);
        Check.due("of(7, 1), all and no more", y.of(7, 1), 40);
        Check.due("of(7, 2)", y.of(7, 2), 40);
    }

    private static void laidFromItsPlace() {
        Check.sentence("from its PLACE on (that PLACE first); FAR (0: its own PLACE)");
        RoomRing x = Check.keys(Check.hosts(0, 1), 76, 15, 36, 27);
        Check.due("about(76, 2) at place 5", x.about(76, 2), 0);
        Check.due("about(27, 2) at place 34", x.about(27, 2), 0);
        Check.due("about(15, 2) one ahead of it", x.about(15, 2), 1);
        Check.due("about(36, 2) one behind it", x.about(36, 2), 28);
        RoomRing y = Check.keys(Check.hosts(9, 1, 59, 1), 13, 74);
        Check.due("has(13) at place 100", y.has(13), 9);
        Check.due("about(13, 2) at place 100", y.about(13, 2), 0);
        Check.due("has(74) at place 0", y.has(74), 59);
        Check.due("about(74, 2) at place 0", y.about(74, 2), 0);
    }

    private static void laidOnceRound() {
        Check.sentence("from its PLACE on, once round: behind 100 comes 0");
        RoomRing x = Check.keys(Check.hosts(59, 1), 13, 53, 74);
        Check.due("about(53, 2), 99 to 0", x.about(53, 2), 2);
        Check.due("about(13, 2), 100 to 0", x.about(13, 2), 1);
        Check.due("about(74, 2), 0 to 0", x.about(74, 2), 0);
        RoomRing y = Check.keys(Check.hosts(0, 1), 88);
        Check.due("about(88, 2), 35 round to 5", y.about(88, 2), 71);
        RoomRing z = Check.keys(Check.hosts(9, 1, 59, 1), 13, 114);
        z.extra(0);
        Check.due("has(13) at place 100", z.has(13), 9);
        Check.due("has(114) at place 100, which is full", z.has(114), 59);
        Check.due("about(114, 1)", z.about(114, 1), 1);
        Check.due("about(114, 2)", z.about(114, 2), 1);
    }

    private static void laidByRisingNumbers() {
        Check.sentence("LAYING: KEYS by rising numbers, not as they came");
        int[][] orders = {{13, 114, 215, 316}, {316, 215, 114, 13}, {215, 13, 316, 114}};
        for (int[] order : orders) {
            RoomRing x = Check.hosts(9, 1, 59, 1);
            x.extra(0);
            Check.keys(x, order);
            Check.due("has(13)", x.has(13), 9);
            Check.due("has(114)", x.has(114), 9);
            Check.due("has(215)", x.has(215), 59);
            Check.due("has(316)", x.has(316), 59);
        }
    }

    private static void laidWhileThereIsRoom() {
        Check.sentence("that has fewer KEYS by then than its BOUND");
        RoomRing x = Check.hosts(0, 4, 50, 1);
        x.extra(0);
        Check.keys(x, 100, 201, 302, 403, 504);
        Check.due("of(0, 1)", x.of(0, 1), 4);
        Check.due("has(403), the last with room", x.has(403), 0);
        Check.due("has(504), the first without", x.has(504), 50);
        Check.due("of(50, 1)", x.of(50, 1), 1);
        x.extra(25);
        Check.due("of(0, 1)", x.of(0, 1), 5);
        Check.due("has(504), room for one more", x.has(504), 0);
        Check.due("of(50, 2)", x.of(50, 2), 0);
    }

    private static void laidToNone() {
        Check.sentence("(If there are no HOSTS: to none.) NONE: no HOSTS");
        RoomRing x = new RoomRing();
        Check.taken(x, "would(13)", () -> x.would(13), Check.NONE);
        Check.taken(x, "key(13)", () -> x.key(13), Check.NONE);
        Check.taken(x, "has(13)", () -> x.has(13), Check.NONE);
        Check.taken(x, "about(13, 0)", () -> x.about(13, 0), 100);
        Check.taken(x, "about(13, 1)", () -> x.about(13, 1), Check.NONE);
        Check.taken(x, "about(13, 2)", () -> x.about(13, 2), Check.NONE);
        Check.due("count(4)", x.count(4), 0);
        Check.due("count(5)", x.count(5), 0);
        Check.due("count(6): no mark is passed", x.count(6), 0);
        Check.due("count(7)", x.count(7), 0);
        Check.due("count(8)", x.count(8), 0);
        Check.taken(x, "extra(200)", () -> x.extra(200), 0);
        Check.taken(x, "drops(13)", () -> x.drops(13), 0);
    }

    /** Host 9 has marks at 71, 100, host 59 at 0, 29; keys 13, 114, 215 are at 100. */
    private static void laidAnewByEveryCall() {
        Check.sentence("It is LAID anew by every call told S that is not refused");
        RoomRing x = Check.hosts(9, 1, 59, 1);
        Check.due("extra(0)", x.extra(0), 0);
        Check.due("key(114)", x.key(114), 9);
        Check.due("key(13)", x.key(13), 9);
        Check.due("count(4): 114 made room", x.count(4), 1);
        Check.due("has(114)", x.has(114), 59);
        Check.due("extra(100)", x.extra(100), 1);
        Check.due("has(114)", x.has(114), 9);
        Check.due("extra(0)", x.extra(0), 1);
        Check.due("weighs(9, 2): bounds 2 and 1", x.weighs(9, 2), 1);
        Check.due("has(114)", x.has(114), 9);
        Check.due("weighs(9, 1)", x.weighs(9, 1), 1);
        Check.due("drops(13)", x.drops(13), 1);
        Check.due("has(114)", x.has(114), 9);
        Check.due("goes(9)", x.goes(9), 1);
        Check.due("has(114)", x.has(114), 59);
        Check.due("host(9, 1)", x.host(9, 1), 1);
        Check.due("has(114)", x.has(114), 9);
        Check.due("text", Check.doesText(x, "k13;"), 1);
        Check.due("count(4) by the text", x.count(4), 1);
        Check.due("has(114) by the text", x.has(114), 59);
    }

    private static void movedFromAndToNone() {
        Check.sentence("MOVED: have another HOST (or none) than ahead");
        RoomRing x = Check.keysUpTo(new RoomRing(), 40);
        Check.due("count(4): none to none", x.count(4), 0);
        Check.due("host(7, 1): all from none", x.host(7, 1), 40);
        Check.due("count(4)", x.count(4), 40);
        Check.due("weighs(7, 4): none", x.weighs(7, 4), 0);
        Check.due("count(4)", x.count(4), 0);
        Check.due("goes(7): all to none", x.goes(7), 40);
        Check.due("count(4)", x.count(4), 40);
        Check.due("drops(0): none", x.drops(0), 0);
        Check.due("host(0, 1), the name 0 is a host, too", x.host(0, 1), 39);
        RoomRing y = new RoomRing();
        Check.due("host(7, 1), no keys", y.host(7, 1), 0);
        Check.due("goes(7), no keys", y.goes(7), 0);
    }

    private static void movedOfThoseThatWereAndAre() {
        Check.sentence("MOVED: how many KEYS that were there ahead of it, and are");
        RoomRing x = Check.hosts(9, 1, 59, 1);
        x.extra(0);
        x.key(13);
        Check.due("count(4): a key that comes has not moved", x.count(4), 0);
        x.key(114);
        Check.due("drops(114): a key that goes has not moved", x.drops(114), 0);
        Check.due("drops(13), the last", x.drops(13), 0);
        Check.sentence("17: MOVED by the last call told S (4)");
        RoomRing y = Check.keys(Check.hosts(9, 1), 13, 114);
        Check.due("goes(9)", y.goes(9), 2);
        y.key(13);
        y.goes(9);
        y.would(5);
        y.type('k');
        y.does();
        y.clear();
        y.digest();
        Check.due("count(4) stays by calls that are refused or not told S", y.count(4), 2);
        y.key(5);
        Check.due("count(4) becomes other by the next", y.count(4), 0);
    }

    private static void passed() {
        Check.sentence("PASSED: MARKS from its PLACE on ahead of that by which it has its HOST");
        RoomRing x = Check.hosts(0, 4, 50, 1);
        x.extra(0);
        Check.keys(x, 100, 201, 302, 403, 504);
        Check.due("about(100, 1)", x.about(100, 1), 0);
        Check.due("about(100, 2), 65 to 78", x.about(100, 2), 13);
        Check.due("about(504, 1): 78, 92, 5, 6, 20, 34", x.about(504, 1), 6);
        Check.due("about(504, 2), 65 round to 35", x.about(504, 2), 71);
        Check.sentence("17: MARKS PASSED by all KEYS (6)");
        Check.due("count(6)", x.count(6), 6);
        RoomRing y = Check.hosts(0, 4, 10, 1);
        y.extra(0);
        Check.keys(y, 76, 177, 278, 379, 480);
        Check.due("about(480, 1), its own place and the next one", y.about(480, 1), 2);
        Check.due("about(480, 2)", y.about(480, 2), 6);
        Check.due("count(6)", y.count(6), 2);
        RoomRing z = Check.hosts(94, 4, 14, 4, 64, 1, 18, 4, 70, 4, 88, 4);
        z.extra(0);
        for (int k : new int[] {27, 67, 17, 36}) {
            for (int more = 0; more < 9; more++) {
                z.key(k + 101 * more);
            }
        }
        Check.due("has(875)", z.has(875), 64);
        Check.due("about(875, 1)", z.about(875, 1), 29);
        Check.due("about(875, 2)", z.about(875, 2), 71);
        Check.due("count(6)", z.count(6), 50);
    }

    private static void fullHosts() {
        Check.sentence("FULL HOSTS: with as many KEYS as their BOUND");
        RoomRing x = Check.hosts(0, 4, 50, 1);
        Check.due("count(5): none of a bound of none", x.count(5), 2);
        x.extra(0);
        Check.keys(x, 100, 201, 302, 403);
        Check.due("of(0, 1)", x.of(0, 1), 4);
        Check.due("count(5): four of four, none of one", x.count(5), 1);
        x.key(504);
        Check.due("count(5): four of four, one of one", x.count(5), 2);
        x.extra(25);
        Check.due("count(5): five of five, none of two", x.count(5), 1);
        x.extra(45);
        Check.due("of(0, 1)", x.of(0, 1), 6);
        Check.due("count(5): five of six, none of two", x.count(5), 0);
        RoomRing y = Check.keysUpTo(Check.hosts(1, 1, 2, 1, 3, 1, 4, 1, 5, 1, 6, 1), 36);
        y.extra(0);
        Check.due("count(5): all six", y.count(5), 6);
    }

    private static void mostKeysOfOneHost() {
        Check.sentence("17: the most KEYS of one HOST (7; 0: no HOSTS)");
        RoomRing x = new RoomRing();
        Check.due("count(7), nothing", x.count(7), 0);
        x.key(100);
        Check.due("count(7), a key and no hosts", x.count(7), 0);
        x.host(0, 4);
        Check.due("count(7), one", x.count(7), 1);
        x.drops(100);
        Check.due("count(7), a host and no keys", x.count(7), 0);
        x.host(50, 1);
        Check.keys(x, 100, 201, 302, 403, 504);
        Check.due("count(7), of the first host", x.count(7), 5);
        RoomRing y = Check.keys(Check.hosts(9, 1, 59, 4), 74, 13, 175, 276);
        Check.due("count(7), of the last host", y.count(7), 3);
        Check.due("of(9, 2)", y.of(9, 2), 1);
    }

    private static void keysOfHost() {
        Check.sentence("8: its i-th KEY by numbers (3 and i); NONE: not so many KEYS");
        RoomRing x = Check.hosts(0, 4, 50, 1);
        Check.due("of(0, 3), no keys", x.of(0, 3), Check.NONE);
        Check.due("of(0, 2), no keys", x.of(0, 2), 0);
        x.extra(0);
        Check.keys(x, 504, 403, 302, 201, 100);
        int[] first = {4, 4, 4, 100, 201, 302, 403, Check.NONE};
        for (int what = 0; what < first.length; what++) {
            Check.due("of(0, " + what + ")", x.of(0, what), first[what]);
        }
        int[] second = {1, 1, 1, 504, Check.NONE};
        for (int what = 0; what < second.length; what++) {
            Check.due("of(50, " + what + ")", x.of(50, what), second[what]);
        }
        Check.due("of(50, 42)", x.of(50, 42), Check.NONE);
        Check.due("told(0)", x.told(0), 0);
    }

    private static void wouldAsKey() {
        Check.sentence("15: The NAME of the HOST that KEY k would have, did it come now");
        RoomRing x = Check.hosts(9, 1, 59, 1);
        x.extra(0);
        Check.due("would(114), the bounds are 0", x.would(114), 9);
        x.key(114);
        Check.due("would(215): laid behind 114", x.would(215), 59);
        Check.due("would(13): laid ahead of 114", x.would(13), 9);
        x.key(13);
        Check.due("would(215): the bounds become 2", x.would(215), 59);
        Check.due("would(50), at place 41", x.would(50), 9);
        Check.sentence("15: as key() then answers, and nothing becomes other");
        RoomRing y = Check.hosts(3, 1, 22, 2, 41, 4);
        for (int i = 0; i < 40; i++) {
            int k = i * 101 % 909 + i / 9;
            long before = y.digest();
            int would = y.would(k);
            Check.due("digest() behind would(" + k + ")", y.digest(), before);
            Check.due("key(" + k + ")", y.key(k), would);
        }
        Check.due("count(1)", y.count(1), 40);
    }

    private static void withoutAsGoes() {
        Check.sentence("16: How many KEYS would be MOVED, did HOST n go");
        RoomRing x = Check.hosts(9, 1, 59, 1);
        Check.due("without(9), no keys", x.without(9), 0);
        x.extra(0);
        Check.keys(x, 13, 114);
        Check.due("without(9)", x.without(9), 1);
        Check.due("without(59)", x.without(59), 1);
        x.extra(100);
        Check.due("without(9), which has both", x.without(9), 2);
        Check.due("without(59), which has none", x.without(59), 0);
        x.goes(59);
        Check.due("without(9), the last host: all to none", x.without(9), 2);
        Check.sentence("16: as goes() then answers, and nothing becomes other");
        RoomRing y = Check.keysUpTo(Check.hosts(0, 4, 19, 1, 38, 2, 57, 3, 76, 1, 95, 4), 40);
        y.extra(0);
        for (int n : new int[] {95, 0, 57, 19, 76, 38}) {
            long before = y.digest();
            int without = y.without(n);
            Check.due("digest() behind without(" + n + ")", y.digest(), before);
            Check.due("goes(" + n + ")", y.goes(n), without);
        }
        Check.due("count(4), the last host went", y.count(4), 40);
    }

    private static void countsOfRefused() {
        Check.sentence("17: KEYS (1), EXTRA (2), WEIGHTS (8): not by a refused call");
        RoomRing x = Check.keys(Check.hosts(7, 4), 1, 2);
        x.host(7, 1);
        x.key(1);
        x.drops(3);
        x.extra(201);
        x.weighs(7, 0);
        Check.due("count(0)", x.count(0), 1);
        Check.due("count(1)", x.count(1), 2);
        Check.due("count(2)", x.count(2), 25);
        Check.due("count(8)", x.count(8), 4);
    }
}
