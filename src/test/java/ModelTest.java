import java.util.ArrayDeque;
import java.util.ArrayList;
import java.util.Deque;
import java.util.List;
import java.util.Random;
import java.util.TreeMap;
import java.util.regex.Pattern;

/**
 * Runs of up to 512 calls, the same ones each time, on a RoomRing and on a slow model that works every
 * answer out anew from the document's words; the first answer that differs is told.
 */
public final class ModelTest {
    private static final int RUNS = 1000;
    private static final int CALLS = 512;
    private static final int MOST_TYPED = 125;
    /** A text is cleared, typed and done, with a digest behind it. */
    private static final int MOST_CALLS_A_STEP = MOST_TYPED + 3;
    private static final int STEPS_A_DIGEST = 4;
    private static final int NONE = -1, BAD = -2, NO = -3, FULL = -4;

    /** How the keys lie: of each key {HOST or NONE, PASSED, FAR}. */
    private record Situation(TreeMap<Integer, Integer> hosts, TreeMap<Integer, Boolean> keys, int extra, int moved) {
        Situation copy() {
            return new Situation(new TreeMap<>(hosts), new TreeMap<>(keys), extra, moved);
        }

        int weights() {
            return hosts.values().stream().mapToInt(Integer::intValue).sum();
        }

        /** Rows {place, name, j}. */
        List<int[]> marks() {
            List<int[]> marks = new ArrayList<>();
            for (int n : hosts.keySet()) {
                for (int j = 0; j < 2 * hosts.get(n); j++) {
                    int place = (41 * n + 29 * j + 5) % 101;
                    while (nameAt(marks, place) != NONE) {
                        place = (place + 1) % 101;
                    }
                    marks.add(new int[] {place, n, j});
                }
            }
            return marks;
        }

        int bound(int n) {
            return (int) Math.ceil(keys.size() * hosts.get(n) * (100 + extra) / (100.0 * weights()));
        }

        TreeMap<Integer, int[]> laid() {
            List<int[]> marks = marks();
            TreeMap<Integer, Integer> bounds = new TreeMap<>();
            hosts.keySet().forEach(n -> bounds.put(n, bound(n)));
            TreeMap<Integer, Integer> loads = new TreeMap<>();
            TreeMap<Integer, int[]> laid = new TreeMap<>();
            for (int k : keys.keySet()) {
                int[] lies = {NONE, NONE, NONE};
                int passed = 0;
                for (int far = 0; far < 101 && lies[0] == NONE; far++) {
                    int n = nameAt(marks, (53 * k + 17 + far) % 101);
                    if (n != NONE && loads.getOrDefault(n, 0) < bounds.get(n)) {
                        lies = new int[] {n, passed, far};
                        loads.merge(n, 1, Integer::sum);
                    } else if (n != NONE) {
                        passed++;
                    }
                }
                laid.put(k, lies);
            }
            return laid;
        }

        int movedTo(Situation then) {
            TreeMap<Integer, int[]> ahead = laid();
            TreeMap<Integer, int[]> behind = then.laid();
            int moved = 0;
            for (int k : ahead.keySet()) {
                if (behind.containsKey(k) && behind.get(k)[0] != ahead.get(k)[0]) {
                    moved++;
                }
            }
            return moved;
        }

        Situation with(int newExtra, int newMoved) {
            return new Situation(hosts, keys, newExtra, newMoved);
        }
    }

    private static int nameAt(List<int[]> marks, int place) {
        for (int[] mark : marks) {
            if (mark[0] == place) {
                return mark[1];
            }
        }
        return NONE;
    }

    private static final class Model {
        Situation now = new Situation(new TreeMap<>(), new TreeMap<>(), 25, 0);
        final Deque<Situation> states = new ArrayDeque<>();
        final StringBuilder text = new StringBuilder();
        final int[] refused = new int[3];
        private static final Pattern ORDERS =
            Pattern.compile("( *([hw] *[0-9]{1,3} +[0-9]{1,3}|[gkde] *[0-9]{1,3}) *;)+ *");

        int refuse(int why) {
            refused[-2 - why]++;
            return why;
        }

        /** The refusal, or 0; what comes of it is in next[0]. */
        int order(Situation from, char letter, int a, int b, Situation[] next) {
            boolean ofHost = "hwg".indexOf(letter) >= 0;
            boolean ofKey = "kd".indexOf(letter) >= 0;
            if (ofHost && (a < 0 || a > 99) || "hw".indexOf(letter) >= 0 && (b < 1 || b > 4)
                || ofKey && (a < 0 || a > 999) || letter == 'e' && (a < 0 || a > 200)) {
                return BAD;
            }
            boolean there = ofHost ? from.hosts().containsKey(a) : from.keys().containsKey(a);
            if (letter != 'e' && there == (letter == 'h' || letter == 'k')) {
                return NO;
            }
            if (letter == 'h' && from.hosts().size() == 6 || letter == 'k' && from.keys().size() == 40) {
                return FULL;
            }
            Situation to = from.copy();
            switch (letter) {
                case 'h', 'w' -> to.hosts().put(a, b);
                case 'g' -> to.hosts().remove(a);
                case 'k' -> to.keys().put(a, true);
                case 'd' -> to.keys().remove(a);
                default -> to = to.with(a, to.moved());
            }
            next[0] = to;
            return 0;
        }

        void keep(Situation next) {
            states.addLast(now);
            if (states.size() > 5) {
                states.removeFirst();
            }
            now = next.with(next.extra(), now.movedTo(next));
        }

        int tell(char letter, int a, int b) {
            Situation[] next = new Situation[1];
            int refusal = order(now, letter, a, b, next);
            if (refusal != 0) {
                return refuse(refusal);
            }
            keep(next[0]);
            return letter == 'k' ? now.laid().get(a)[0] : now.moved();
        }

        int ask(char letter, int a) {
            Situation[] next = new Situation[1];
            int refusal = order(now, letter, a, 0, next);
            if (refusal != 0) {
                return refuse(refusal);
            }
            return letter == 'k' ? next[0].laid().get(a)[0] : now.movedTo(next[0]);
        }

        int load(int n) {
            return keysOf(n).size();
        }

        List<Integer> keysOf(int n) {
            List<Integer> keys = new ArrayList<>();
            now.laid().forEach((k, lies) -> {
                if (lies[0] == n) {
                    keys.add(k);
                }
            });
            return keys;
        }

        int of(int n, int what) {
            if (n < 0 || n > 99 || what < 0 || what > 42) {
                return refuse(BAD);
            }
            if (!now.hosts().containsKey(n)) {
                return refuse(NO);
            }
            List<Integer> keys = keysOf(n);
            return what == 0 ? now.hosts().get(n) : what == 1 ? now.bound(n) : what == 2 ? keys.size()
                : what - 3 < keys.size() ? keys.get(what - 3) : NONE;
        }

        int mark(int n, int j) {
            if (n < 0 || n > 99 || j < 0 || j > 7) {
                return refuse(BAD);
            }
            if (!now.hosts().containsKey(n)) {
                return refuse(NO);
            }
            for (int[] mark : now.marks()) {
                if (mark[1] == n && mark[2] == j) {
                    return mark[0];
                }
            }
            return NONE;
        }

        int at(int place) {
            return place < 0 || place > 100 ? refuse(BAD) : nameAt(now.marks(), place);
        }

        int name(int i) {
            List<Integer> names = new ArrayList<>(now.hosts().keySet());
            return i < 0 ? refuse(BAD) : i < names.size() ? names.get(i) : NONE;
        }

        int share(int n) {
            if (n < 0 || n > 99) {
                return refuse(BAD);
            }
            if (!now.hosts().containsKey(n)) {
                return refuse(NO);
            }
            List<int[]> marks = now.marks();
            int sum = 0;
            for (int place = 0; place < 101; place++) {
                int p = place;
                while (nameAt(marks, p) == NONE) {
                    p = (p + 1) % 101;
                }
                sum += nameAt(marks, p) == n ? 1 : 0;
            }
            return sum;
        }

        int has(int k) {
            if (k < 0 || k > 999) {
                return refuse(BAD);
            }
            return now.keys().containsKey(k) ? now.laid().get(k)[0] : refuse(NO);
        }

        int about(int k, int what) {
            if (k < 0 || k > 999 || what < 0 || what > 2) {
                return refuse(BAD);
            }
            if (!now.keys().containsKey(k)) {
                return refuse(NO);
            }
            return what == 0 ? (53 * k + 17) % 101 : now.laid().get(k)[what];
        }

        int count(int what) {
            return switch (what) {
                case 0 -> now.hosts().size();
                case 1 -> now.keys().size();
                case 2 -> now.extra();
                case 3 -> now.marks().size();
                case 4 -> now.moved();
                case 5 -> (int) now.hosts().keySet().stream().filter(n -> load(n) == now.bound(n)).count();
                case 6 -> now.laid().values().stream().mapToInt(lies -> Math.max(lies[1], 0)).sum();
                case 7 -> now.hosts().keySet().stream().mapToInt(this::load).max().orElse(0);
                case 8 -> now.weights();
                default -> refuse(BAD);
            };
        }

        int type(int c) {
            if (c < 0 || c > 127) {
                return refuse(BAD);
            }
            if (text.length() == 120) {
                return refuse(FULL);
            }
            text.append((char) c);
            return text.length();
        }

        int clear() {
            int had = text.length();
            text.setLength(0);
            return had;
        }

        /** A beginning can stand if something that follows makes it whole. */
        boolean canStand(String beginning) {
            for (String end : new String[] {"", ";", "1;", "1 1;", " 1;", "k1;"}) {
                if (ORDERS.matcher(beginning + end).matches()) {
                    return true;
                }
            }
            return false;
        }

        int fault() {
            for (int place = 0; place < text.length(); place++) {
                if (!canStand(text.substring(0, place + 1))) {
                    return place;
                }
            }
            return ORDERS.matcher(text).matches() ? NONE : text.length();
        }

        int does() {
            int fault = fault();
            if (fault != NONE) {
                return -10 - fault;
            }
            Situation[] next = {now};
            int done = 0;
            for (String part : text.toString().split(";")) {
                String order = part.trim();
                if (order.isEmpty()) {
                    continue;
                }
                String[] numbers = order.substring(1).trim().split(" +");
                int b = numbers.length > 1 ? Integer.parseInt(numbers[1]) : 0;
                if (order(next[0], order.charAt(0), Integer.parseInt(numbers[0]), b, next) != 0) {
                    return -1000 - done;
                }
                done++;
            }
            keep(next[0]);
            return done;
        }

        int back() {
            if (states.isEmpty()) {
                return refuse(NO);
            }
            now = states.removeLast();
            return states.size();
        }

        int told(int what) {
            return what < 0 || what > 4 ? refuse(BAD)
                : what < 3 ? refused[what] : what == 3 ? text.length() : states.size();
        }

        long digest() {
            List<Integer> vs = new ArrayList<>();
            for (int what = 0; what < 5; what++) {
                vs.add(told(what));
            }
            for (int what = 0; what < 9; what++) {
                vs.add(count(what));
            }
            List<int[]> marks = now.marks();
            for (int place = 0; place < 101; place++) {
                vs.add(nameAt(marks, place));
            }
            for (int n : now.hosts().keySet()) {
                vs.addAll(List.of(n, of(n, 0), of(n, 1), of(n, 2)));
            }
            now.laid().forEach((k, lies) -> vs.addAll(List.of(k, lies[0], (53 * k + 17) % 101, lies[1], lies[2])));
            long h = 2820;
            for (int v : vs) {
                h = 31 * h + v;
            }
            return h;
        }
    }

    /** Mostly numbers that are there or near, now and then one that is far out. */
    private static int pick(Random random, int from, int to) {
        int kind = random.nextInt(40);
        if (kind == 0) {
            return random.nextInt();
        }
        if (kind == 1) {
            return random.nextBoolean() ? from - 1 : to + 1;
        }
        return from + random.nextInt(to - from + 1);
    }

    private static int pickName(Random random, Model model) {
        List<Integer> names = new ArrayList<>(model.now.hosts().keySet());
        boolean there = !names.isEmpty() && random.nextInt(4) != 0;
        return there ? names.get(random.nextInt(names.size())) : pick(random, 0, 99);
    }

    private static int pickKey(Random random, Model model, int span) {
        List<Integer> keys = new ArrayList<>(model.now.keys().keySet());
        boolean there = !keys.isEmpty() && random.nextInt(4) != 0;
        return there ? keys.get(random.nextInt(keys.size())) : newKey(random, span);
    }

    /** Keys that are 101 apart have one place, so that hosts fill up and are passed by. */
    private static int newKey(Random random, int span) {
        int k = pick(random, 0, 999);
        return span == 1 || k < 0 || k > 999 ? k : k % span + k / 101 % 9 * 101;
    }

    private static String blanks(Random random) {
        return " ".repeat(random.nextInt(8) == 0 ? 1 + random.nextInt(2) : 0);
    }

    private static String someOrder(Random random, Model model, int span) {
        char letter = "hwgkkkkde".charAt(random.nextInt(9));
        int number = switch (letter) {
            case 'h' -> random.nextInt(100);
            case 'w', 'g' -> Math.floorMod(pickName(random, model), 1000);
            case 'k' -> Math.floorMod(newKey(random, span), 1000);
            case 'd' -> Math.floorMod(pickKey(random, model, span), 1000);
            default -> random.nextInt(210);
        };
        String figures = random.nextInt(6) == 0 ? String.format("%03d", number) : String.valueOf(number);
        String second = "hw".indexOf(letter) < 0 ? "" : " " + blanks(random) + (random.nextInt(20) == 0 ? 5 : 1 + random.nextInt(4));
        return blanks(random) + letter + blanks(random) + figures + second + blanks(random) + ";" + blanks(random);
    }

    private static String someText(Random random, Model model, int span) {
        StringBuilder text = new StringBuilder();
        int orders = random.nextInt(12) == 0 ? 25 : random.nextInt(6);
        for (int i = 0; i < orders; i++) {
            text.append(someOrder(random, model, span));
        }
        if (random.nextInt(3) == 0 && text.length() > 0) {
            String wrongs = " ;hwgkde0123456789x\t\u0000\u007f";
            char c = wrongs.charAt(random.nextInt(wrongs.length()));
            int place = random.nextInt(text.length());
            switch (random.nextInt(4)) {
                case 0 -> text.setCharAt(place, c);
                case 1 -> text.insert(place, c);
                case 2 -> text.deleteCharAt(place);
                default -> text.setLength(place);
            }
        }
        return text.toString();
    }

    private static String log = "";
    private static int calls = 0;

    private static boolean same(String call, long got, long want) {
        calls++;
        log = call + " answered " + got + ", due is " + want;
        return got == want;
    }

    private static boolean tells(Random random, RoomRing x, Model m, int span) {
        switch (random.nextInt(10)) {
            case 0: {
                int n = pick(random, 0, 99), w = pick(random, 1, 4);
                return same("host(" + n + ", " + w + ")", x.host(n, w), m.tell('h', n, w));
            }
            case 1: {
                int n = pickName(random, m), w = pick(random, 1, 4);
                return same("weighs(" + n + ", " + w + ")", x.weighs(n, w), m.tell('w', n, w));
            }
            case 2: {
                int n = random.nextInt(3) == 0 ? pickName(random, m) : pick(random, 0, 99);
                return same("goes(" + n + ")", x.goes(n), m.tell('g', n, 0));
            }
            case 3: {
                int k = pickKey(random, m, span);
                return same("drops(" + k + ")", x.drops(k), m.tell('d', k, 0));
            }
            case 4: {
                int e = random.nextInt(3) == 0 ? 0 : pick(random, 0, 200);
                return same("extra(" + e + ")", x.extra(e), m.tell('e', e, 0));
            }
            case 5:
                return same("back()", x.back(), m.back());
            default: {
                int k = newKey(random, span);
                return same("key(" + k + ")", x.key(k), m.tell('k', k, 0));
            }
        }
    }

    private static boolean asks(Random random, RoomRing x, Model m, int span) {
        int n = pickName(random, m), k = pickKey(random, m, span);
        switch (random.nextInt(12)) {
            case 0: {
                int what = random.nextBoolean() ? pick(random, 0, 42) : pick(random, 0, 10);
                return same("of(" + n + ", " + what + ")", x.of(n, what), m.of(n, what));
            }
            case 1: {
                int j = pick(random, 0, 7);
                return same("mark(" + n + ", " + j + ")", x.mark(n, j), m.mark(n, j));
            }
            case 2: {
                int place = pick(random, 0, 100);
                return same("at(" + place + ")", x.at(place), m.at(place));
            }
            case 3: {
                int i = pick(random, 0, 6);
                return same("name(" + i + ")", x.name(i), m.name(i));
            }
            case 4:
                return same("share(" + n + ")", x.share(n), m.share(n));
            case 5:
                return same("has(" + k + ")", x.has(k), m.has(k));
            case 6: {
                int what = pick(random, 0, 2);
                return same("about(" + k + ", " + what + ")", x.about(k, what), m.about(k, what));
            }
            case 7: {
                int fresh = random.nextInt(3) == 0 ? k : newKey(random, span);
                return same("would(" + fresh + ")", x.would(fresh), m.ask('k', fresh));
            }
            case 8:
                return same("without(" + n + ")", x.without(n), m.ask('g', n));
            case 9: {
                int what = pick(random, 0, 8);
                return same("count(" + what + ")", x.count(what), m.count(what));
            }
            case 10: {
                int what = pick(random, 0, 4);
                return same("told(" + what + ")", x.told(what), m.told(what));
            }
            default:
                return same("digest()", x.digest(), m.digest());
        }
    }

    private static boolean writes(Random random, RoomRing x, Model m, int span) {
        if (random.nextInt(5) != 0 && !same("clear()", x.clear(), m.clear())) {
            return false;
        }
        String text = someText(random, m, span);
        for (int i = 0; i < text.length() && i < MOST_TYPED; i++) {
            int c = random.nextInt(400) == 0 ? pick(random, 127, 128) : text.charAt(i);
            if (!same("type(" + c + ")", x.type(c), m.type(c))) {
                return false;
            }
        }
        return same("does() of \"" + m.text + "\"", x.does(), m.does());
    }

    private static boolean run(long seed) {
        Random random = new Random(seed);
        RoomRing x = new RoomRing();
        Model m = new Model();
        int span = random.nextBoolean() ? 1 : 2 + random.nextInt(40);
        int texts = random.nextInt(4);
        calls = 0;
        for (int step = 0; calls + MOST_CALLS_A_STEP <= CALLS; step++) {
            int kind = random.nextInt(24);
            boolean good = kind < texts ? writes(random, x, m, span)
                : kind < 14 ? tells(random, x, m, span) : asks(random, x, m, span);
            if (!good) {
                System.out.println("run " + seed + ", step " + step + ": " + log);
                return false;
            }
            String last = log;
            if (step % STEPS_A_DIGEST == 0 && !same("digest()", x.digest(), m.digest())) {
                System.out.println("run " + seed + ", step " + step + ": the digest differs behind: " + last);
                return false;
            }
        }
        return true;
    }

    public static void main(String[] args) {
        int wrong = 0;
        for (int seed = 0; seed < RUNS && wrong < 10; seed++) {
            wrong += run(seed) ? 0 : 1;
        }
        System.out.println(wrong == 0 ? "all runs are as the model's" : wrong + " runs are not as the model's");
        if (wrong != 0) {
            System.exit(1);
        }
    }
}
