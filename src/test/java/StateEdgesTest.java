import java.util.function.IntSupplier;

/** States to go back to, how often refused, and the digest, at their edges: none, one, five and a sixth. */
public final class StateEdgesTest {
    public static void main(String[] args) {
        noneToGoBackTo();
        eachCallToldS();
        alsoIfNothingBecomesOther();
        notByOtherCalls();
        notByRefusedCalls();
        fiveAtMost();
        eachStateWhole();
        movedComesBack();
        textAndRefusedStay();
        backAndOnAgain();
        ofFullRings();
        toldOfEach();
        digestOfNone();
        digestWithoutHosts();
        digestOfAll();
        digestChangesNothing();
        fiveHundredAndTwelveCalls();
        Check.end();
    }

    private static void noneToGoBackTo() {
        Check.sentence("21: NO: none");
        RoomRing x = new RoomRing();
        Check.refused(x, "back() of a new object", x::back, Check.NO);
        x.host(5, 1);
        Check.due("back() of one", x.back(), 0);
        Check.refused(x, "back() once more", x::back, Check.NO);
        Check.refused(x, "back() once more", x::back, Check.NO);
        Check.due("told(1)", x.told(1), 3);
        Check.due("host(5, 1) again", x.host(5, 1), 0);
        Check.due("told(4)", x.told(4), 1);
    }

    /** Host 9 has marks at 71, 100, host 59 at 0, 29; keys 13, 114 are at 100; MOVED is 1; no states. */
    private static RoomRing two() {
        RoomRing x = Check.keys(Check.hosts(9, 1, 59, 1), 13, 114);
        x.extra(0);
        for (int i = 0; i < 5; i++) {
            x.extra(0);
        }
        for (int i = 0; i < 5; i++) {
            x.back();
        }
        return x;
    }

    private static IntSupplier[] callsToldS(RoomRing x) {
        return new IntSupplier[] {() -> x.host(5, 1), () -> x.weighs(9, 4), () -> x.goes(9), () -> x.key(5),
            () -> x.drops(13), () -> x.extra(100), x::does};
    }

    private static void eachCallToldS() {
        Check.sentence("STATES: each call told S, if it is not refused, leaves one to go back to");
        for (int call = 0; call < 7; call++) {
            RoomRing x = two();
            Check.write(x, "h0 1;g9;d114;k7;e7;");
            Check.due("told(4)", x.told(4), 0);
            long before = x.digest();
            int answer = callsToldS(x)[call].getAsInt();
            Check.due("call " + call + " is not refused", answer >= 0 ? 1 : 0, 1);
            Check.due("told(4) behind call " + call, x.told(4), 1);
            Check.due("call " + call + " changed something", x.digest() == before ? 0 : 1, 1);
            Check.due("back() behind call " + call, x.back(), 0);
            Check.due("digest() behind back()", x.digest(), before);
            Check.due("call " + call + " again", callsToldS(x)[call].getAsInt(), answer);
        }
    }

    private static void alsoIfNothingBecomesOther() {
        Check.sentence("STATES: also if nothing becomes other by it");
        RoomRing x = two();
        Check.due("extra(0), as it is", x.extra(0), 0);
        Check.due("told(4)", x.told(4), 1);
        long all = Check.allButTold(x);
        Check.due("weighs(9, 1), as it is", x.weighs(9, 1), 0);
        Check.due("told(4)", x.told(4), 2);
        Check.due("does(), as it is", Check.doesText(x, "e0;w59 1;d13;k13;g9;h9 1;"), 6);
        Check.due("told(4)", x.told(4), 3);
        Check.due("all is as it was", Check.allButTold(x), all);
        Check.due("back()", x.back(), 2);
        Check.due("all is as it was", Check.allButTold(x), all);
        Check.due("back()", x.back(), 1);
        Check.due("all is as it was", Check.allButTold(x), all);
        Check.due("count(4)", x.count(4), 0);
        Check.due("back()", x.back(), 0);
        Check.due("count(4), which alone was other", x.count(4), 1);
    }

    private static void notByOtherCalls() {
        Check.sentence("STATES: by calls told S, and by no others");
        RoomRing x = two();
        x.extra(3);
        x.of(9, 0);
        x.mark(9, 0);
        x.at(0);
        x.name(0);
        x.share(9);
        x.has(13);
        x.about(13, 1);
        x.would(5);
        x.without(9);
        x.count(0);
        x.told(0);
        x.digest();
        x.type('k');
        x.does();
        x.clear();
        Check.due("told(4)", x.told(4), 1);
        Check.due("back()", x.back(), 0);
        Check.due("count(2)", x.count(2), 0);
    }

    private static void notByRefusedCalls() {
        Check.sentence("STATES: each call told S, IF IT IS NOT REFUSED");
        RoomRing x = two();
        x.host(9, 1);
        x.host(1, 5);
        x.weighs(1, 1);
        x.weighs(9, 0);
        x.goes(1);
        x.goes(-1);
        x.key(13);
        x.key(1000);
        x.drops(1);
        x.drops(-1);
        x.extra(201);
        Check.doesText(x, "e5;g1;");
        Check.doesText(x, "e5;g");
        Check.due("told(4)", x.told(4), 0);
        Check.due("told(0) + told(1)", x.told(0) + x.told(1), 11);
    }

    private static void fiveAtMost() {
        Check.sentence("STATES: 5 at most, older ones lost");
        for (int calls = 0; calls <= 12; calls++) {
            RoomRing x = new RoomRing();
            for (int e = 1; e <= calls; e++) {
                x.extra(100 + e);
            }
            int states = Math.min(calls, 5);
            Check.due("told(4) behind " + calls, x.told(4), states);
            for (int left = states - 1; left >= 0; left--) {
                Check.due("back() behind " + calls, x.back(), left);
                Check.due("told(4)", x.told(4), left);
                int e = calls - states + left;
                Check.due("count(2)", x.count(2), e == 0 ? 25 : 100 + e);
            }
            Check.refused(x, "back() behind " + calls, x::back, Check.NO);
        }
    }

    /** A text stands for each row of calls, so that a state has several things to hold. */
    private static void eachStateWhole() {
        Check.sentence("STATES: to go back to (all but THE TEXT and how often refused)");
        RoomRing x = new RoomRing();
        String[] texts = {"h50 2;h20 1;k700;k3;e9;", "g50;h70 4;h1 3;d3;k999;k4;k5;", "e200;w70 1;k0;k1;k2;",
            "h33 1;h34 2;h35 3;d999;d700;w1 4;", "g1;g20;g33;g34;g35;g70;", "d0;d1;d2;d4;d5;e0;"};
        long[] all = new long[texts.length + 1];
        all[0] = Check.allButTold(x);
        for (int i = 0; i < texts.length; i++) {
            Check.due("does() of \"" + texts[i] + "\"", Check.doesText(x, texts[i]) > 0 ? 1 : 0, 1);
            all[i + 1] = Check.allButTold(x);
        }
        for (int left = 4; left >= 0; left--) {
            Check.due("back()", x.back(), left);
            Check.due("all as behind text " + left, Check.allButTold(x), all[left + 1]);
        }
        Check.due("of(50, 0)", x.of(50, 0), 2);
        Check.due("of(20, 0)", x.of(20, 0), 1);
        Check.due("count(2)", x.count(2), 9);
        Check.due("about(3, 0)", x.about(3, 0), 75);
    }

    private static void movedComesBack() {
        Check.sentence("STATES: (MOVED, too)");
        RoomRing x = Check.keys(new RoomRing(), 13, 114, 215);
        x.host(9, 1);
        Check.due("count(4)", x.count(4), 3);
        x.extra(5);
        Check.due("count(4)", x.count(4), 0);
        x.goes(9);
        Check.due("count(4)", x.count(4), 3);
        x.back();
        Check.due("count(4), back from 3", x.count(4), 0);
        x.back();
        Check.due("count(4), back from 0", x.count(4), 3);
        x.back();
        Check.due("count(4): back() moves keys, but is not told S", x.count(4), 0);
        Check.due("has(13)", x.has(13), Check.NONE);
    }

    private static void textAndRefusedStay() {
        Check.sentence("STATES: all but THE TEXT and how often refused");
        RoomRing x = Check.ringOf("e7;");
        x.extra(5);
        x.type(' ');
        x.at(101);
        x.goes(5);
        for (int i = 0; i < 6; i++) {
            x.host(i, 1);
        }
        x.host(7, 1);
        x.back();
        Check.due("told(0)", x.told(0), 1);
        Check.due("told(1)", x.told(1), 1);
        Check.due("told(2)", x.told(2), 1);
        Check.due("told(3)", x.told(3), 4);
        Check.due("does()", x.does(), 1);
        Check.due("count(2)", x.count(2), 7);
        x.clear();
        x.back();
        Check.due("told(3): a text that was cleared stays so", x.told(3), 0);
    }

    private static void backAndOnAgain() {
        Check.sentence("21: A STATE back: how many can be yet; then on from there");
        RoomRing x = new RoomRing();
        for (int e = 1; e <= 7; e++) {
            x.extra(e);
        }
        Check.due("back() to 6", x.back(), 4);
        Check.due("back() to 5", x.back(), 3);
        x.extra(50);
        Check.due("told(4)", x.told(4), 4);
        x.extra(51);
        x.extra(52);
        Check.due("told(4)", x.told(4), 5);
        int[] extras = {51, 50, 5, 4, 3};
        for (int i = 0; i < extras.length; i++) {
            Check.due("back()", x.back(), 4 - i);
            Check.due("count(2)", x.count(2), extras[i]);
        }
        Check.due("back()", x.back(), Check.NO);
        x.extra(60);
        Check.due("back()", x.back(), 0);
        Check.due("count(2)", x.count(2), 3);
    }

    private static void ofFullRings() {
        Check.sentence("STATES, with as many HOSTS and KEYS as there may be");
        RoomRing x = Check.keysUpTo(Check.hosts(0, 4, 19, 4, 38, 4, 57, 4, 76, 4, 95, 4), 40);
        long full = Check.allButTold(x);
        x.drops(0);
        x.goes(0);
        x.key(999);
        x.host(99, 1);
        Check.due("key(998), 40 are there", x.key(998), Check.FULL);
        Check.due("host(98, 1), 6 are there", x.host(98, 1), Check.FULL);
        for (int left = 4; left >= 1; left--) {
            Check.due("back()", x.back(), left);
        }
        Check.due("all as when full", Check.allButTold(x), full);
        Check.due("key(999), 40 are there", x.key(999), Check.FULL);
        Check.due("host(99, 1), 6 are there", x.host(99, 1), Check.FULL);
        Check.due("back()", x.back(), 0);
        Check.due("count(1)", x.count(1), 39);
        Check.due("key(999), room for one", x.key(999) >= 0 ? 1 : 0, 1);
    }

    private static void toldOfEach() {
        Check.sentence("22: How often refused: BAD (0), NO (1), FULL (2); bytes of THE TEXT (3), STATES (4)");
        RoomRing x = new RoomRing();
        x.at(-1);
        checkTolds(x, 1, 0, 0, 0, 0);
        x.goes(1);
        checkTolds(x, 1, 1, 0, 0, 0);
        Check.write(x, "h1 1;h2 1;h3 1;h4 1;h5 1;h6 1;");
        x.does();
        checkTolds(x, 1, 1, 0, 30, 1);
        x.host(7, 1);
        checkTolds(x, 1, 1, 1, 30, 1);
        x.told(5);
        checkTolds(x, 2, 1, 1, 30, 1);
        x.told(-1);
        checkTolds(x, 3, 1, 1, 30, 1);
        x.back();
        checkTolds(x, 3, 1, 1, 30, 0);
        x.back();
        checkTolds(x, 3, 2, 1, 30, 0);
        x.clear();
        checkTolds(x, 3, 2, 1, 0, 0);
    }

    private static void checkTolds(RoomRing x, int... tolds) {
        for (int what = 0; what < tolds.length; what++) {
            Check.due("told(" + what + ")", x.told(what), tolds[what]);
        }
    }

    private static void digestOfNone() {
        Check.sentence("23: h = 2820; then h = 31 h + v, with no HOSTS and no KEYS");
        long h = 2820;
        for (int i = 0; i < 14; i++) {
            h = 31 * h + (i == 7 ? 25 : 0);
        }
        for (int place = 0; place <= 100; place++) {
            h = 31 * h - 1;
        }
        Check.due("digest()", new RoomRing().digest(), h);
    }

    private static void digestWithoutHosts() {
        Check.sentence("23: of each KEY it, has(), about(0) to about(2), with no HOSTS");
        RoomRing x = Check.keys(new RoomRing(), 999, 0);
        long h = 2820;
        for (int v : new int[] {0, 0, 0, 0, 2, 0, 2, 25, 0, 0, 0, 0, 0, 0}) {
            h = 31 * h + v;
        }
        for (int place = 0; place <= 100; place++) {
            h = 31 * h - 1;
        }
        for (int v : new int[] {0, -1, 17, -1, -1, 999, -1, 40, -1, -1}) {
            h = 31 * h + v;
        }
        Check.due("digest()", x.digest(), h);
    }

    private static void digestOfAll() {
        Check.sentence("23: with as many HOSTS and KEYS as there may be, by rising NAMES and numbers");
        RoomRing x = Check.hosts(95, 4, 0, 1, 76, 2, 19, 3, 57, 1, 38, 4);
        x.extra(0);
        for (int k = 39; k >= 0; k--) {
            x.key(k * 25);
        }
        x.type(127);
        x.at(101);
        x.goes(1);
        x.goes(2);
        x.host(1, 1);
        long digest = x.digest();
        long h = 2820;
        for (int what = 0; what < 5; what++) {
            h = 31 * h + x.told(what);
        }
        for (int what = 0; what < 9; what++) {
            h = 31 * h + x.count(what);
        }
        for (int place = 0; place <= 100; place++) {
            h = 31 * h + x.at(place);
        }
        for (int n = 0; n <= 95; n += 19) {
            h = 31 * h + n;
            for (int what = 0; what < 3; what++) {
                h = 31 * h + x.of(n, what);
            }
        }
        for (int k = 0; k < 1000; k += 25) {
            h = 31 * h + k;
            h = 31 * h + x.has(k);
            for (int what = 0; what < 3; what++) {
                h = 31 * h + x.about(k, what);
            }
        }
        Check.due("digest()", digest, h);
    }

    private static void digestChangesNothing() {
        Check.sentence("23: digest() tells, and nothing becomes other");
        RoomRing x = two();
        Check.write(x, "k5");
        int[] before = Check.tolds(x);
        long digest = x.digest();
        Check.due("digest() again", x.digest(), digest);
        checkTolds(x, before);
        x.type(';');
        Check.due("does()", x.does(), 1);
    }

    private static void fiveHundredAndTwelveCalls() {
        Check.sentence("An object is used for at most 512 calls after it has been made");
        RoomRing x = new RoomRing();
        for (int i = 0; i < 510; i++) {
            Check.due("extra()", x.extra(i % 201), 0);
        }
        Check.due("back(), the 511th", x.back(), 4);
        Check.due("count(2), the 512th", x.count(2), 508 % 201);
    }
}
