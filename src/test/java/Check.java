import java.util.function.IntSupplier;

/** What the tests of edges share; no test of its own. Each answer is told with the sentence it stands for. */
final class Check {
    static final int NONE = -1, BAD = -2, NO = -3, FULL = -4;

    private static String sentence = "";
    private static int wrong = 0;
    private static int seen = 0;

    private Check() {
    }

    /** The document's words that the answers behind this call stand for. */
    static void sentence(String words) {
        sentence = words;
    }

    static void due(String call, long got, long want) {
        seen++;
        if (got != want) {
            wrong++;
            System.out.println("[" + sentence + "] " + call + " answered " + got + ", due is " + want);
        }
    }

    /** The call is refused for that reason, which is counted once, and nothing else becomes other. */
    static void refused(RoomRing x, String call, IntSupplier made, int why) {
        int[] before = tolds(x);
        long rest = allButTold(x);
        due(call, made.getAsInt(), why);
        before[-2 - why]++;
        int[] behind = tolds(x);
        for (int what = 0; what < before.length; what++) {
            due("told(" + what + ") behind " + call, behind[what], before[what]);
        }
        due("all but told() behind " + call, allButTold(x), rest);
    }

    /** Neither BAD, NO nor FULL is counted by the call. */
    static void taken(RoomRing x, String call, IntSupplier made, int want) {
        int[] before = tolds(x);
        due(call, made.getAsInt(), want);
        int[] behind = tolds(x);
        for (int what = 0; what < 3; what++) {
            due("told(" + what + ") behind " + call, behind[what], before[what]);
        }
    }

    static int[] tolds(RoomRing x) {
        int[] tolds = new int[5];
        for (int what = 0; what < tolds.length; what++) {
            tolds[what] = x.told(what);
        }
        return tolds;
    }

    /** The digest less what the five told() add to it: counts, marks, hosts and keys. */
    static long allButTold(RoomRing x) {
        int values = 5 + 9 + 101 + 4 * x.count(0) + 5 * x.count(1);
        int[] tolds = tolds(x);
        long h = x.digest();
        for (int what = 0; what < tolds.length; what++) {
            h -= tolds[what] * power31(values - 1 - what);
        }
        return h;
    }

    private static long power31(int exponent) {
        long power = 1;
        for (int i = 0; i < exponent; i++) {
            power *= 31;
        }
        return power;
    }

    static RoomRing ringOf(String text) {
        RoomRing x = new RoomRing();
        write(x, text);
        return x;
    }

    static void write(RoomRing x, String text) {
        x.clear();
        for (int i = 0; i < text.length(); i++) {
            x.type(text.charAt(i));
        }
    }

    static int doesText(RoomRing x, String text) {
        write(x, text);
        return x.does();
    }

    /** Hosts of pairs NAME, WEIGHT, in that order of coming. */
    static RoomRing hosts(int... pairs) {
        RoomRing x = new RoomRing();
        for (int i = 0; i + 1 < pairs.length; i += 2) {
            x.host(pairs[i], pairs[i + 1]);
        }
        return x;
    }

    static RoomRing keys(RoomRing x, int... keys) {
        for (int k : keys) {
            x.key(k);
        }
        return x;
    }

    static RoomRing keysUpTo(RoomRing x, int count) {
        for (int k = 0; k < count; k++) {
            x.key(k);
        }
        return x;
    }

    static void end() {
        System.out.println(wrong == 0 ? "all " + seen + " answers are as due" : wrong + " answers are not as due");
        if (wrong != 0) {
            System.exit(1);
        }
    }
}
