/**
 * The text at its edges: every byte at every place of an order, too short, too long, empty, blanks,
 * numbers of no and of four figures, refused orders; and what a text leaves that is not done.
 */
public final class TextEdgesTest {
    private static final String FIGURES = "0123456789";
    private static final String LETTERS = "hwgkde";

    public static void main(String[] args) {
        everyByteEverywhere();
        everyByteBehindAnOrder();
        endsTooEarly();
        fourthFigure();
        numbersOfFigures();
        blanksAnywhere();
        blanksNeeded();
        firstFault();
        faultAtTheLastByte();
        readWholeFirst();
        faultDoesNothing();
        ordersAsCalls();
        ordersRefused();
        refusedByOrdersAhead();
        sixHostsByText();
        fortyKeysByText();
        numberOfTheOrder();
        refusedDoesNothing();
        asManyOrdersAsThereMayBe();
        textStays();
        movedOnce();
        laidOnce();
        oneStateForAll();
        textTypedOn();
        Check.end();
    }

    /** Of each beginning of an order those bytes that can stand next; "#" is for the ten figures. */
    private static String[][] beginnings() {
        String[] two = {"h", "w"};
        String[] one = {"g", "k", "d", "e"};
        String[][] ofTwo = {{"L", " #"}, {"L ", " #"}, {"L1", " #"}, {"L12", " #"}, {"L123", " "}, {"L1 ", " #"},
            {"L123  ", " #"}, {"L1 2", " ;#"}, {"L1 23", " ;#"}, {"L1 234", " ;"}, {"L1 2 ", " ;"}, {"L1 234 ", " ;"},
            {"L 1  2  ", " ;"}};
        String[][] ofOne = {{"L", " #"}, {"L ", " #"}, {"L1", " ;#"}, {"L12", " ;#"}, {"L123", " ;"}, {"L1 ", " ;"},
            {"L123 ", " ;"}, {"L  000", " ;"}};
        String[][] all = new String[two.length * ofTwo.length + one.length * ofOne.length + 3][];
        int next = 0;
        for (String letter : two) {
            for (String[] row : ofTwo) {
                all[next++] = new String[] {row[0].replace("L", letter), row[1]};
            }
        }
        for (String letter : one) {
            for (String[] row : ofOne) {
                all[next++] = new String[] {row[0].replace("L", letter), row[1]};
            }
        }
        all[next++] = new String[] {"", " " + LETTERS};
        all[next++] = new String[] {" ", " " + LETTERS};
        all[next] = new String[] {"    ", " " + LETTERS};
        return all;
    }

    private static void everyByteEverywhere() {
        Check.sentence("FAULT: the place of the first byte that can not stand there");
        for (String[] row : beginnings()) {
            tryEveryByte("", row[0], row[1]);
        }
    }

    private static void everyByteBehindAnOrder() {
        Check.sentence("FAULT, behind ORDERS that are whole");
        for (String[] row : beginnings()) {
            tryEveryByte("e5; h 7 1 ;", row[0], row[1]);
        }
    }

    /** A byte that can stand leaves a text that ends too early, if it does not end an order. */
    private static void tryEveryByte(String ahead, String beginning, String allowed) {
        String stands = allowed.replace("#", FIGURES);
        boolean wholeAhead = !ahead.isEmpty() && beginning.isBlank();
        for (int c = 0; c <= 127; c++) {
            RoomRing x = Check.ringOf(ahead + beginning + (char) c);
            int length = ahead.length() + beginning.length();
            boolean can = stands.indexOf(c) >= 0;
            boolean whole = c == ';' || wholeAhead && c == ' ';
            int got = x.does();
            if (!can) {
                Check.due("does() of \"" + ahead + beginning + "\" and byte " + c, got, -10 - length);
            } else if (!whole) {
                Check.due("does() of \"" + ahead + beginning + "\" and byte " + c, got, -10 - (length + 1));
            } else {
                Check.due("a FAULT for \"" + ahead + beginning + "\" and byte " + c, got <= -10 && got > -1000 ? 1 : 0, 0);
            }
        }
    }

    private static void endsTooEarly() {
        Check.sentence("the TEXT's length, if it ends too early (one that is empty or has blanks alone, too)");
        Check.due("does() of none", new RoomRing().does(), -10);
        RoomRing cleared = Check.ringOf("k1;");
        cleared.clear();
        Check.due("does() behind clear()", cleared.does(), -10);
        for (int blanks = 1; blanks <= 120; blanks++) {
            Check.due("does() of " + blanks + " blanks", Check.ringOf(" ".repeat(blanks)).does(), -10 - blanks);
        }
        String whole = " h 12  3 ; w12 4;g12; k 900;d900 ;e 200 ;";
        String ends = "";
        for (int i = 0; i < whole.length(); i++) {
            boolean complete = ends.contains(";") && ends.substring(ends.lastIndexOf(';') + 1).isBlank();
            int orders = ends.length() - ends.replace(";", "").length();
            Check.due("does() of \"" + ends + "\"", Check.ringOf(ends).does(), complete ? orders : -10 - i);
            ends = whole.substring(0, i + 1);
        }
        Check.due("does() of the whole", Check.ringOf(whole).does(), 6);
        Check.due("does() of 120 bytes that end too early", Check.ringOf("k1;d1;".repeat(19) + "k1;k22").does(), -10 - 120);
    }

    private static void fourthFigure() {
        Check.sentence("FAULT: (a fourth figure)");
        Object[][] faults = {{"k1234;", 4}, {"k0001;", 4}, {"k 0000;", 5}, {"d1234;", 4}, {"g0012;", 4}, {"e0025;", 4},
            {"h1234 1;", 4}, {"h0001 1;", 4}, {"h1 0001;", 6}, {"w1 1111;", 6}, {"w1111 1;", 4}, {"k99999;", 4},
            {"k1;k1234;", 7}, {"h123456;", 4}, {"k123", 4}, {"k1234", 4}, {"h123 4567", 8}};
        for (Object[] row : faults) {
            Check.due("does() of \"" + row[0] + "\"", Check.ringOf((String) row[0]).does(), -10 - (int) row[1]);
        }
    }

    private static void numbersOfFigures() {
        Check.sentence("Numbers have 1 to 3 figures");
        Object[][] texts = {{"k0;", 0}, {"k00;", 0}, {"k000;", 0}, {"k7;", 7}, {"k07;", 7}, {"k007;", 7}, {"k70;", 70},
            {"k070;", 70}, {"k100;", 100}, {"k999;", 999}, {"k010;", 10}, {"k890;", 890}};
        for (Object[] row : texts) {
            RoomRing x = Check.ringOf((String) row[0]);
            Check.due("does() of \"" + row[0] + "\"", x.does(), 1);
            Check.due("has() by \"" + row[0] + "\"", x.has((int) row[1]), Check.NONE);
        }
        for (String figures : new String[] {"h9 4;", "h09 04;", "h009 004;"}) {
            RoomRing x = Check.ringOf(figures);
            Check.due("does() of \"" + figures + "\"", x.does(), 1);
            Check.due("of(9, 0) by \"" + figures + "\"", x.of(9, 0), 4);
        }
        Check.sentence("Numbers have 1 figure at least");
        Object[][] faults = {{"k;", 1}, {"k ;", 2}, {"h;", 1}, {"h1;", 2}, {"h1 ;", 3}, {"w 1 ;", 4}, {"e;", 1}, {"g ;", 2}};
        for (Object[] row : faults) {
            Check.due("does() of \"" + row[0] + "\"", Check.ringOf((String) row[0]).does(), -10 - (int) row[1]);
        }
    }

    private static void blanksAnywhere() {
        Check.sentence("blanks (32) may stand anywhere but within a number");
        String[] parts = {"h", "12", " ", "3", ";", "w", "12", " ", "4", ";", "k", "345", ";", "d", "345", ";", "e", "7", ";"};
        for (int at = 0; at <= parts.length; at++) {
            StringBuilder text = new StringBuilder();
            for (int i = 0; i < parts.length; i++) {
                text.append(i == at ? "  " : "").append(parts[i]);
            }
            text.append(at == parts.length ? "  " : "");
            RoomRing x = Check.ringOf(text.toString());
            Check.due("does() of \"" + text + "\"", x.does(), 5);
            Check.due("of(12, 0) by \"" + text + "\"", x.of(12, 0), 4);
            Check.due("count(2) by \"" + text + "\"", x.count(2), 7);
        }
        Object[][] within = {{"k1 2;", 3}, {"k12 3;", 4}, {"h1 2 3;", 5}, {"h1 1 2;", 5}, {"e2 0;", 3}, {"k 1  2;", 5}};
        for (Object[] row : within) {
            Check.due("does() of \"" + row[0] + "\"", Check.ringOf((String) row[0]).does(), -10 - (int) row[1]);
        }
        Check.sentence("blanks (32), and no other byte for one");
        for (char c : new char[] {9, 10, 13, 0, 31, 33, 11, 12, 127}) {
            Check.due("does() with byte " + (int) c, Check.ringOf(c + "k1;").does(), -10);
            Check.due("does() with byte " + (int) c, Check.ringOf("k" + c + "1;").does(), -11);
            Check.due("does() with byte " + (int) c, Check.ringOf("h1" + c + "1;").does(), -12);
            Check.due("does() with byte " + (int) c, Check.ringOf("k1" + c + ";").does(), -12);
            Check.due("does() with byte " + (int) c, Check.ringOf("k1;" + c).does(), -13);
        }
        RoomRing most = Check.ringOf(" ".repeat(117) + "k5;");
        Check.due("does() of 117 blanks and an order", most.does(), 1);
        RoomRing behind = Check.ringOf("k5;" + " ".repeat(117));
        Check.due("does() of an order and 117 blanks", behind.does(), 1);
    }

    private static void blanksNeeded() {
        Check.sentence("needed only where figures of two numbers would else stand side by side");
        RoomRing x = Check.ringOf("h7 2;w7 3;k5;d5;e9;h8 1;g8;");
        Check.due("does() with no blank but those", x.does(), 7);
        Check.due("of(7, 0)", x.of(7, 0), 3);
        Check.due("does() of \"h72;\"", Check.ringOf("h72;").does(), -13);
        Check.due("does() of \"h7002;\"", Check.ringOf("h7002;").does(), -14);
    }

    private static void firstFault() {
        Check.sentence("FAULT: the place of the FIRST byte that can not stand there");
        Object[][] faults = {{"xx", 0}, {"k1;xkx", 3}, {"k1;k1234;x", 7}, {"K1;k1;x", 0}, {"H1 1;", 0}, {";", 0}, {";;", 0},
            {"k1;;", 3}, {"k1; ;", 4}, {"1;", 0}, {"k-1;", 1}, {"k+1;", 1}, {"k1.;", 2}, {"k1,k2;", 2}, {"kk1;", 1},
            {"k1k2;", 2}, {"k1 k2;", 3}, {"h1 1k2;", 4}, {"h1k1;", 2}, {"h1;1;", 2}, {"h1,1;", 2}, {"k1:", 2}, {"k1/", 2},
            {"k/", 1}, {"k:", 1}, {"h1 /", 3}, {"h1 :", 3}, {"k1;e5", 5}, {"i1;", 0}, {"f1;", 0}, {"c1;", 0}};
        for (Object[] row : faults) {
            Check.due("does() of \"" + row[0] + "\"", Check.ringOf((String) row[0]).does(), -10 - (int) row[1]);
        }
    }

    private static void faultAtTheLastByte() {
        Check.sentence("FAULT, at the last of 120 bytes");
        String ahead = "k1;d1;".repeat(19) + "k1;k2";
        Check.due("does() of 119 bytes that end too early", Check.ringOf(ahead).does(), -10 - 119);
        Check.due("does() with 'x' as the 120th", Check.ringOf(ahead + "x").does(), -10 - 119);
        Check.due("does() with ';' as the 120th", Check.ringOf(ahead + ";").does(), 40);
        Check.due("does() of one byte", Check.ringOf("x").does(), -10);
        Check.due("does() of one letter", Check.ringOf("k").does(), -11);
    }

    private static void readWholeFirst() {
        Check.sentence("THE TEXT is read whole first: a FAULT is ahead of an ORDER that is refused");
        Object[][] faults = {{"h100 1;x", 7}, {"g5;k", 4}, {"k1;k1;;", 6}, {"e999;e1", 7}, {"d1;d2;d3;d4567;", 13}};
        for (Object[] row : faults) {
            Check.due("does() of \"" + row[0] + "\"", Check.ringOf((String) row[0]).does(), -10 - (int) row[1]);
        }
    }

    /** Host 9 has marks at 71, 100, host 59 at 0, 29; keys 13, 114 are at 100; the last call moved one. */
    private static RoomRing busy() {
        RoomRing x = Check.keys(Check.hosts(9, 1, 59, 1), 13, 114);
        x.extra(0);
        return x;
    }

    private static void nothingDone(String text, int answer) {
        RoomRing x = busy();
        Check.write(x, text);
        x.at(-1);
        x.goes(1);
        long before = x.digest();
        Check.due("does() of \"" + text + "\"", x.does(), answer);
        Check.due("digest() behind does() of \"" + text + "\"", x.digest(), before);
        Check.due("count(4) behind does() of \"" + text + "\"", x.count(4), 1);
        Check.due("told(3) behind does() of \"" + text + "\"", x.told(3), text.length());
        Check.due("does() of \"" + text + "\" again", x.does(), answer);
        Check.due("back() behind does() of \"" + text + "\"", x.back(), 4);
        Check.due("count(2) behind back()", x.count(2), 25);
    }

    private static void faultDoesNothing() {
        Check.sentence("If there is one (a FAULT), nothing is done; no S; by does() nothing counts");
        nothingDone("", -10);
        nothingDone("   ", -13);
        nothingDone("k1;e100;g9;x", -21);
        nothingDone("h1 1;k5", -17);
        nothingDone("d13;d1140;", -18);
        nothingDone("g9;g59", -16);
    }

    private static void refusedDoesNothing() {
        Check.sentence("an ORDER that its call would refuse then ends all, nothing is done; no S; by does() nothing counts");
        nothingDone("h100 1;", -1000);
        nothingDone("k1;h1 5;k2;", -1001);
        nothingDone("g9;g9;", -1001);
        nothingDone("d13;d114;e200;d13;", -1003);
        nothingDone("e0;h1 1;h2 1;h3 1;h4 1;h5 1;", -1005);
        nothingDone("w9 4;e201;", -1001);
    }

    private static void ordersAsCalls() {
        Check.sentence("h n w (as host), w n w (as weighs), g n (as goes), k k (as key), d k (as drops), e n (as extra)");
        RoomRing x = Check.ringOf("h0 4;h99 1;");
        Check.due("does()", x.does(), 2);
        Check.due("of(0, 0)", x.of(0, 0), 4);
        Check.due("of(99, 0)", x.of(99, 0), 1);
        Check.due("does() of w", Check.doesText(x, "w0 1;w99 4;"), 2);
        Check.due("of(0, 0)", x.of(0, 0), 1);
        Check.due("of(99, 0)", x.of(99, 0), 4);
        Check.due("does() of k", Check.doesText(x, "k999;k0;"), 2);
        Check.due("count(1)", x.count(1), 2);
        Check.due("about(999, 0)", x.about(999, 0), 40);
        Check.due("about(0, 0)", x.about(0, 0), 17);
        Check.due("does() of d", Check.doesText(x, "d999;"), 1);
        Check.due("has(999)", x.has(999), Check.NO);
        Check.due("has(0)", x.has(0) >= 0 ? 1 : 0, 1);
        Check.due("does() of g", Check.doesText(x, "g99;"), 1);
        Check.due("count(0)", x.count(0), 1);
        Check.due("name(0)", x.name(0), 0);
        Check.due("does() of e", Check.doesText(x, "e200;"), 1);
        Check.due("count(2)", x.count(2), 200);
        Check.due("does() of e", Check.doesText(x, "e0;"), 1);
        Check.due("count(2)", x.count(2), 0);
    }

    private static void ordersRefused() {
        Check.sentence("an ORDER that its call would refuse: the last number taken, the first refused");
        String[] taken = {"h0 1;", "h99 1;", "h50 4;", "w9 1;", "w9 4;", "g9;", "k0;", "k999;", "d13;", "e0;", "e200;"};
        for (String text : taken) {
            Check.due("does() of \"" + text + "\"", Check.doesText(busy(), text), 1);
        }
        String[] refused = {"h100 1;", "h999 1;", "h50 0;", "h50 5;", "h50 999;", "h9 1;", "w100 1;", "w9 0;", "w9 5;",
            "w50 1;", "g100;", "g50;", "k13;", "d999;", "d0;", "e201;", "e999;"};
        for (String text : refused) {
            Check.due("does() of \"" + text + "\"", Check.doesText(busy(), text), -1000);
        }
    }

    private static void refusedByOrdersAhead() {
        Check.sentence("an ORDER that its call would refuse THEN");
        Object[][] texts = {{"k1;k1;", -1001}, {"k1;d1;", 2}, {"k1;d1;d1;", -1002}, {"k1;d1;k1;", 3}, {"h1 1;h1 2;", -1001},
            {"h1 1;w1 2;", 2}, {"w1 2;h1 1;", -1000}, {"h1 1;g1;w1 1;", -1002}, {"h1 1;g1;h1 2;", 3}, {"d13;d13;", -1001},
            {"d13;k13;", 2}, {"g9;h9 4;w9 1;g9;", 4}};
        for (Object[] row : texts) {
            Check.due("does() of \"" + row[0] + "\"", Check.doesText(busy(), (String) row[0]), (int) row[1]);
        }
    }

    private static void sixHostsByText() {
        Check.sentence("2: FULL: 6 HOSTS, by THE TEXT");
        RoomRing x = Check.ringOf("h0 4;h1 4;h2 4;h3 4;h4 4;h5 4;");
        Check.due("does() of six", x.does(), 6);
        Check.due("count(0)", x.count(0), 6);
        Check.due("does() of a seventh", Check.doesText(x, "h6 1;"), -1000);
        Check.due("does() of another for one", Check.doesText(x, "g0;h6 1;"), 2);
        Check.due("does(), the other way round", Check.doesText(x, "h7 1;g1;"), -1000);
        Check.due("told(2)", x.told(2), 0);
        Check.due("does() of seven", Check.ringOf("h0 4;h1 4;h2 4;h3 4;h4 4;h5 4;h6 4;").does(), -1006);
    }

    private static void fortyKeysByText() {
        Check.sentence("5: FULL: 40 KEYS, by THE TEXT");
        RoomRing x = Check.keysUpTo(new RoomRing(), 39);
        Check.due("does() of two more", Check.doesText(x, "k900;k901;"), -1001);
        Check.due("count(1)", x.count(1), 39);
        Check.due("does() of one more", Check.doesText(x, "k900;"), 1);
        Check.due("count(1)", x.count(1), 40);
        Check.due("does() of the next", Check.doesText(x, "k901;"), -1000);
        Check.due("does() of another for one", Check.doesText(x, "d0;k901;"), 2);
        Check.due("does(), the other way round", Check.doesText(x, "k902;d1;"), -1000);
        Check.due("told(2)", x.told(2), 0);
        Check.due("count(1)", x.count(1), 40);
    }

    private static void numberOfTheOrder() {
        Check.sentence("20: -1000 less the number (0 on) of the ORDER that ends all");
        for (int good = 0; good < 40; good++) {
            RoomRing x = new RoomRing();
            Check.due("does(), " + good + " orders ahead", Check.doesText(x, "e5;".repeat(good) + "g5;"), -1000 - good);
            Check.due("count(2)", x.count(2), 25);
        }
        Check.due("does(): the first of two that would be", Check.doesText(new RoomRing(), "e1;g5;g6;"), -1001);
    }

    private static void asManyOrdersAsThereMayBe() {
        Check.sentence("20: ORDERS are done: how many; THE TEXT (120 bytes at most)");
        for (int orders = 1; orders <= 40; orders++) {
            RoomRing x = new RoomRing();
            Check.due("does() of " + orders, Check.doesText(x, "e5;".repeat(orders)), orders);
            Check.due("count(2)", x.count(2), 5);
        }
        RoomRing x = Check.hosts(7, 1);
        StringBuilder keys = new StringBuilder();
        for (int k = 0; k < 10; k++) {
            keys.append('k').append(k).append(';');
        }
        for (int k = 10; k < 32; k++) {
            keys.append('k').append(k).append(';');
        }
        Check.due("does() of keys, 118 bytes", Check.doesText(x, keys.toString()), 32);
        Check.due("count(1)", x.count(1), 32);
        for (int k = 0; k < 32; k++) {
            Check.due("of(7, " + (3 + k) + ")", x.of(7, 3 + k), k);
        }
    }

    private static void textStays() {
        Check.sentence("20: ORDERS are done (THE TEXT stays)");
        RoomRing x = Check.ringOf("k1;");
        Check.due("does()", x.does(), 1);
        Check.due("told(3)", x.told(3), 3);
        Check.due("does() again: it is there", x.does(), -1000);
        x.drops(1);
        Check.due("does() once it went", x.does(), 1);
        Check.due("back()", x.back(), 2);
        Check.due("told(3): not a part of the states", x.told(3), 3);
        Check.due("does() behind back()", x.does(), 1);
        Check.due("clear()", x.clear(), 3);
        Check.due("has(1): what is done stays", x.has(1), Check.NONE);
        Check.due("count(1)", x.count(1), 1);
    }

    private static void movedOnce() {
        Check.sentence("(LAID, MOVED once, for all ORDERS together.)");
        RoomRing x = busy();
        Check.due("does(): there and back", Check.doesText(x, "e100;e0;"), 2);
        Check.due("count(4)", x.count(4), 0);
        Check.due("does(): a host goes and comes", Check.doesText(x, "g9;h9 1;"), 2);
        Check.due("count(4)", x.count(4), 0);
        Check.due("does(): all hosts go and one comes", Check.doesText(x, "g9;g59;h9 1;"), 3);
        Check.due("count(4): 114 went from 59 to 9", x.count(4), 1);
        Check.due("does(): a key goes and comes, and has another host", Check.doesText(x, "d13;k13;g9;"), 3);
        Check.due("count(4): it was there and is", x.count(4), 2);
        Check.due("does(): a key comes and goes", Check.doesText(x, "h9 1;k500;d500;"), 3);
        Check.due("count(4): 13 and 114 from none", x.count(4), 2);
        Check.due("does(): a new key, none for a host", Check.doesText(x, "d13;d114;k5;g9;"), 4);
        Check.due("count(4): none that were are", x.count(4), 0);
        Check.due("does(): from none", Check.doesText(x, "k6;h0 1;"), 2);
        Check.due("count(4): 5 was there, 6 was not", x.count(4), 1);
    }

    private static void laidOnce() {
        Check.sentence("(LAID once: by what all ORDERS have made, in whichever order they stand)");
        String[] texts = {"h9 1;h59 1;e0;k13;k114;", "k114;k13;e0;h59 1;h9 1;", "k13;h59 1;k114;e200;h9 4;w9 1;e0;"};
        for (String text : texts) {
            RoomRing x = new RoomRing();
            Check.doesText(x, text);
            Check.due("has(13) by \"" + text + "\"", x.has(13), 9);
            Check.due("has(114) by \"" + text + "\"", x.has(114), 59);
            Check.due("count(4) by \"" + text + "\"", x.count(4), 0);
        }
    }

    private static void oneStateForAll() {
        Check.sentence("20: S (one STATE for all)");
        RoomRing x = new RoomRing();
        Check.due("does()", Check.doesText(x, "h9 1;h59 1;k13;k114;e0;"), 5);
        Check.due("told(4)", x.told(4), 1);
        Check.due("does()", Check.doesText(x, "d13;g9;"), 2);
        Check.due("told(4)", x.told(4), 2);
        Check.due("back()", x.back(), 1);
        Check.due("has(13)", x.has(13), 9);
        Check.due("has(114)", x.has(114), 59);
        Check.due("count(2)", x.count(2), 0);
        Check.due("back()", x.back(), 0);
        Check.due("count(0)", x.count(0), 0);
        Check.due("count(1)", x.count(1), 0);
        Check.due("count(2)", x.count(2), 25);
        Check.due("does() of what makes nothing other", Check.doesText(x, "k1;d1;"), 2);
        Check.due("told(4)", x.told(4), 1);
    }

    private static void textTypedOn() {
        Check.sentence("18: A byte comes BEHIND THE TEXT: how many it has");
        RoomRing x = new RoomRing();
        String text = "k1;k2;";
        int[] answers = {-11, -12, 1, -14, -15, -1000};
        for (int i = 0; i < text.length(); i++) {
            int c = text.charAt(i);
            Check.due("type(" + c + ")", x.type(c), i + 1);
            Check.due("does() of \"" + text.substring(0, i + 1) + "\"", x.does(), answers[i]);
        }
        Check.sentence("18: a byte that is refused does not come");
        RoomRing y = Check.ringOf("k1");
        y.type(128);
        y.type(-1);
        Check.due("type(59)", y.type(';'), 3);
        Check.due("does()", y.does(), 1);
        Check.sentence("18, 19: type() and clear() are not told S");
        RoomRing z = busy();
        z.back();
        Check.write(z, "k1;");
        z.clear();
        Check.due("told(4)", z.told(4), 4);
        Check.due("count(4)", z.count(4), 0);
    }
}
