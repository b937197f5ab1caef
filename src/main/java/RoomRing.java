/**
 * Keys on a ring of 101 places: each key goes to the first mark on from its place whose host has
 * room below its bound. The document (DOC.md) numbers what every call promises.
 */
public final class RoomRing {
    public static final int NONE = -1, BAD = -2, NO = -3, FULL = -4;

    private static final int DONE = 0;

    private static final int PLACES = 101;
    private static final int LAST_NAME = 99;
    private static final int MOST_WEIGHT = 4;
    private static final int MOST_HOSTS = 6;
    private static final int MARKS_A_WEIGHT = 2;
    private static final int MOST_MARKS = MARKS_A_WEIGHT * MOST_WEIGHT;
    private static final int LAST_KEY = 999;
    private static final int MOST_KEYS = 40;
    private static final int FIRST_EXTRA = 25;
    private static final int MOST_EXTRA = 200;

    private static final int MOST_STATES = 5;
    private static final int MOST_BYTES = 120;
    private static final int LAST_BYTE = 127;
    private static final int MOST_FIGURES = 3;
    /** The shortest order, such as "k1;", has three bytes. */
    private static final int MOST_ORDERS = MOST_BYTES / 3;

    private static final int FIRST_KEY_OF_HOST = 3;
    private static final int HOST_FACTS = 3;
    private static final int KEY_FACTS = 3;
    private static final int COUNTS = 9;
    private static final int TOLDS = 5;

    private static final int FAULT_BASE = -10;
    private static final int ENDED_BASE = -1000;

    /** The ring as it is; it changes places with the draft when what the draft tries is kept. */
    private Ring now;
    private Ring draft;
    private final History history;
    private final Script script;
    private int refusedBad;
    private int refusedNo;
    private int refusedFull;

    public RoomRing() {
        now = new Ring();
        draft = new Ring();
        history = new History();
        script = new Script();
        refusedBad = 0;
        refusedNo = 0;
        refusedFull = 0;
    }

    // ---- what is told in

    public int host(int n, int w) {
        return tellOne('h', n, w);
    }

    public int weighs(int n, int w) {
        return tellOne('w', n, w);
    }

    public int goes(int n) {
        return tellOne('g', n, 0);
    }

    public int key(int k) {
        int moved = tellOne('k', k, 0);
        return moved < 0 ? moved : now.hostNameOfKey(k);
    }

    public int drops(int k) {
        return tellOne('d', k, 0);
    }

    public int extra(int n) {
        return tellOne('e', n, 0);
    }

    // ---- hosts

    public int of(int n, int what) {
        if (!isName(n) || what < 0 || what >= FIRST_KEY_OF_HOST + MOST_KEYS) {
            return refuse(BAD);
        }
        int h = now.stock.findHost(n);
        return h < 0 ? refuse(NO) : now.hostFact(h, what);
    }

    public int mark(int n, int j) {
        if (!isName(n) || j < 0 || j >= MOST_MARKS) {
            return refuse(BAD);
        }
        int h = now.stock.findHost(n);
        return h < 0 ? refuse(NO) : now.placeOfMark(h, j);
    }

    public int at(int place) {
        if (place < 0 || place >= PLACES) {
            return refuse(BAD);
        }
        return now.stock.nameOf(now.owners[place]);
    }

    public int name(int i) {
        return i < 0 ? refuse(BAD) : now.stock.nameOf(i);
    }

    public int share(int n) {
        if (!isName(n)) {
            return refuse(BAD);
        }
        int h = now.stock.findHost(n);
        return h < 0 ? refuse(NO) : now.placesLeadingTo(h);
    }

    // ---- keys

    public int has(int k) {
        if (!isKey(k)) {
            return refuse(BAD);
        }
        int i = now.stock.findKey(k);
        return i < 0 ? refuse(NO) : now.stock.nameOf(now.keyHosts[i]);
    }

    public int about(int k, int what) {
        if (!isKey(k) || what < 0 || what >= KEY_FACTS) {
            return refuse(BAD);
        }
        int i = now.stock.findKey(k);
        return i < 0 ? refuse(NO) : now.keyFact(i, what);
    }

    public int would(int k) {
        int refusal = tryOne('k', k);
        return refusal == DONE ? draft.hostNameOfKey(k) : refuse(refusal);
    }

    public int without(int n) {
        int refusal = tryOne('g', n);
        return refusal == DONE ? draft.movedSince(now) : refuse(refusal);
    }

    public int count(int what) {
        switch (what) {
            case 0: return now.stock.hostCount;
            case 1: return now.stock.keyCount;
            case 2: return now.stock.extraShare;
            case 3: return MARKS_A_WEIGHT * now.stock.allWeights();
            case 4: return now.stock.moved;
            case 5: return now.fullHosts();
            case 6: return now.allPassed();
            case 7: return now.mostLoad();
            case 8: return now.stock.allWeights();
            default: return refuse(BAD);
        }
    }

    // ---- texts

    public int type(int c) {
        if (c < 0 || c > LAST_BYTE) {
            return refuse(BAD);
        }
        return script.append(c) ? script.length : refuse(FULL);
    }

    public int clear() {
        int had = script.length;
        script.length = 0;
        return had;
    }

    public int does() {
        int fault = script.read();
        if (fault != NONE) {
            return FAULT_BASE - fault;
        }
        draft.stock.copyFrom(now.stock);
        for (int i = 0; i < script.orderCount; i++) {
            if (draft.stock.take(script.letters[i], script.firsts[i], script.seconds[i]) != DONE) {
                return ENDED_BASE - i;
            }
        }
        keepDraft();
        return script.orderCount;
    }

    public int back() {
        if (history.size == 0) {
            return refuse(NO);
        }
        history.takeBack(now.stock);
        now.lay();
        return history.size;
    }

    public int told(int what) {
        switch (what) {
            case 0: return refusedBad;
            case 1: return refusedNo;
            case 2: return refusedFull;
            case 3: return script.length;
            case 4: return history.size;
            default: return refuse(BAD);
        }
    }

    public long digest() {
        long h = 2820;
        for (int what = 0; what < TOLDS; what++) {
            h = 31 * h + told(what);
        }
        for (int what = 0; what < COUNTS; what++) {
            h = 31 * h + count(what);
        }
        for (int place = 0; place < PLACES; place++) {
            h = 31 * h + at(place);
        }
        return digestKeys(digestHosts(h));
    }

    private long digestHosts(long start) {
        long h = start;
        for (int i = 0; i < now.stock.hostCount; i++) {
            h = 31 * h + now.stock.names[i];
            for (int what = 0; what < HOST_FACTS; what++) {
                h = 31 * h + now.hostFact(i, what);
            }
        }
        return h;
    }

    private long digestKeys(long start) {
        long h = start;
        for (int i = 0; i < now.stock.keyCount; i++) {
            h = 31 * h + now.stock.keys[i];
            h = 31 * h + now.stock.nameOf(now.keyHosts[i]);
            for (int what = 0; what < KEY_FACTS; what++) {
                h = 31 * h + now.keyFact(i, what);
            }
        }
        return h;
    }

    /** Answers MOVED, or why the order is refused. */
    private int tellOne(int letter, int first, int second) {
        draft.stock.copyFrom(now.stock);
        int refusal = draft.stock.take(letter, first, second);
        if (refusal != DONE) {
            return refuse(refusal);
        }
        keepDraft();
        return now.stock.moved;
    }

    /** Lays the draft as it would be behind the order; nothing of it is kept. */
    private int tryOne(int letter, int first) {
        draft.stock.copyFrom(now.stock);
        int refusal = draft.stock.take(letter, first, 0);
        if (refusal == DONE) {
            draft.lay();
        }
        return refusal;
    }

    private void keepDraft() {
        draft.lay();
        draft.stock.moved = draft.movedSince(now);
        history.keep(now.stock);
        Ring before = now;
        now = draft;
        draft = before;
    }

    private int refuse(int why) {
        if (why == BAD) {
            refusedBad++;
        } else if (why == NO) {
            refusedNo++;
        } else {
            refusedFull++;
        }
        return why;
    }

    private static boolean isName(int n) {
        return n >= 0 && n <= LAST_NAME;
    }

    private static boolean isWeight(int w) {
        return w >= 1 && w <= MOST_WEIGHT;
    }

    private static boolean isKey(int k) {
        return k >= 0 && k <= LAST_KEY;
    }

    /** What has been told in, and MOVED: all that a state has to hold, as the rest follows. */
    private static final class Stock {
        /** Hosts stand by rising names, keys by rising numbers. */
        final int[] names = new int[MOST_HOSTS];
        final int[] weights = new int[MOST_HOSTS];
        final int[] keys = new int[MOST_KEYS];
        int hostCount = 0;
        int keyCount = 0;
        int extraShare = FIRST_EXTRA;
        int moved = 0;

        void copyFrom(Stock other) {
            System.arraycopy(other.names, 0, names, 0, MOST_HOSTS);
            System.arraycopy(other.weights, 0, weights, 0, MOST_HOSTS);
            System.arraycopy(other.keys, 0, keys, 0, MOST_KEYS);
            hostCount = other.hostCount;
            keyCount = other.keyCount;
            extraShare = other.extraShare;
            moved = other.moved;
        }

        int findHost(int n) {
            for (int i = 0; i < hostCount; i++) {
                if (names[i] == n) {
                    return i;
                }
            }
            return NONE;
        }

        int findKey(int k) {
            for (int i = 0; i < keyCount; i++) {
                if (keys[i] == k) {
                    return i;
                }
            }
            return NONE;
        }

        int nameOf(int h) {
            return h >= 0 && h < hostCount ? names[h] : NONE;
        }

        int allWeights() {
            int sum = 0;
            for (int i = 0; i < hostCount; i++) {
                sum += weights[i];
            }
            return sum;
        }

        /** Does an order of the text's letters: DONE, or why it is refused (nothing is done). */
        int take(int letter, int first, int second) {
            switch (letter) {
                case 'h': return addHost(first, second);
                case 'w': return weighAnew(first, second);
                case 'g': return removeHost(first);
                case 'k': return addKey(first);
                case 'd': return removeKey(first);
                default: return changeExtra(first);
            }
        }

        private int addHost(int n, int w) {
            if (!isName(n) || !isWeight(w)) {
                return BAD;
            }
            if (findHost(n) >= 0) {
                return NO;
            }
            if (hostCount >= MOST_HOSTS) {
                return FULL;
            }
            int i = hostCount;
            while (i > 0 && names[i - 1] > n) {
                names[i] = names[i - 1];
                weights[i] = weights[i - 1];
                i--;
            }
            names[i] = n;
            weights[i] = w;
            hostCount++;
            return DONE;
        }

        private int weighAnew(int n, int w) {
            if (!isName(n) || !isWeight(w)) {
                return BAD;
            }
            int h = findHost(n);
            if (h < 0) {
                return NO;
            }
            weights[h] = w;
            return DONE;
        }

        private int removeHost(int n) {
            if (!isName(n)) {
                return BAD;
            }
            int h = findHost(n);
            if (h < 0) {
                return NO;
            }
            for (int i = h + 1; i < hostCount; i++) {
                names[i - 1] = names[i];
                weights[i - 1] = weights[i];
            }
            hostCount--;
            return DONE;
        }

        private int addKey(int k) {
            if (!isKey(k)) {
                return BAD;
            }
            if (findKey(k) >= 0) {
                return NO;
            }
            if (keyCount >= MOST_KEYS) {
                return FULL;
            }
            int i = keyCount;
            while (i > 0 && keys[i - 1] > k) {
                keys[i] = keys[i - 1];
                i--;
            }
            keys[i] = k;
            keyCount++;
            return DONE;
        }

        private int removeKey(int k) {
            if (!isKey(k)) {
                return BAD;
            }
            int found = findKey(k);
            if (found < 0) {
                return NO;
            }
            for (int i = found + 1; i < keyCount; i++) {
                keys[i - 1] = keys[i];
            }
            keyCount--;
            return DONE;
        }

        private int changeExtra(int e) {
            if (e < 0 || e > MOST_EXTRA) {
                return BAD;
            }
            extraShare = e;
            return DONE;
        }
    }

    /** A stock, and how its keys lie: what lay() sets follows from the stock alone. */
    private static final class Ring {
        final Stock stock = new Stock();
        /** Of each place: which host (by its index in the stock) has a mark there, or NONE. */
        final int[] owners = new int[PLACES];
        final int[] markPlaces = new int[MOST_HOSTS * MOST_MARKS];
        final int[] bounds = new int[MOST_HOSTS];
        final int[] loads = new int[MOST_HOSTS];
        /** Of each key of the stock: its host's index, MARKS PASSED, FAR; NONE without hosts. */
        final int[] keyHosts = new int[MOST_KEYS];
        final int[] passed = new int[MOST_KEYS];
        final int[] far = new int[MOST_KEYS];

        Ring() {
            lay();
        }

        void lay() {
            setMarks();
            setBounds();
            for (int i = 0; i < stock.keyCount; i++) {
                layKey(i);
            }
        }

        private void setMarks() {
            for (int place = 0; place < PLACES; place++) {
                owners[place] = NONE;
            }
            for (int h = 0; h < stock.hostCount; h++) {
                int marks = MARKS_A_WEIGHT * stock.weights[h];
                for (int j = 0; j < marks; j++) {
                    int place = freePlaceFrom((41 * stock.names[h] + 29 * j + 5) % PLACES);
                    owners[place] = h;
                    markPlaces[h * MOST_MARKS + j] = place;
                }
            }
        }

        /** There always is one: all hosts together have fewer marks than there are places. */
        private int freePlaceFrom(int start) {
            int place = start;
            for (int step = 0; step < PLACES && owners[place] != NONE; step++) {
                place = placeBehind(place);
            }
            return place;
        }

        private void setBounds() {
            int divisor = 100 * stock.allWeights();
            for (int h = 0; h < stock.hostCount && divisor > 0; h++) {
                int most = stock.keyCount * stock.weights[h] * (100 + stock.extraShare);
                bounds[h] = (most + divisor - 1) / divisor;
                loads[h] = 0;
            }
        }

        /** Some host has room while hosts are there: the bounds together are no less than the keys. */
        private void layKey(int i) {
            keyHosts[i] = NONE;
            passed[i] = NONE;
            far[i] = NONE;
            int place = placeOfKey(i);
            int passedBy = 0;
            for (int step = 0; step < PLACES; step++) {
                int h = owners[place];
                if (h != NONE && loads[h] < bounds[h]) {
                    keyHosts[i] = h;
                    passed[i] = passedBy;
                    far[i] = step;
                    loads[h]++;
                    return;
                }
                if (h != NONE) {
                    passedBy++;
                }
                place = placeBehind(place);
            }
        }

        private static int placeBehind(int place) {
            return place + 1 < PLACES ? place + 1 : 0;
        }

        private int placeOfKey(int i) {
            return (53 * stock.keys[i] + 17) % PLACES;
        }

        int hostNameOfKey(int k) {
            int i = stock.findKey(k);
            return i < 0 ? NONE : stock.nameOf(keyHosts[i]);
        }

        /** Hosts are compared by their names, as their indexes shift when hosts come and go. */
        int movedSince(Ring before) {
            int sum = 0;
            for (int i = 0; i < before.stock.keyCount; i++) {
                int k = before.stock.keys[i];
                int formerName = before.stock.nameOf(before.keyHosts[i]);
                if (stock.findKey(k) >= 0 && hostNameOfKey(k) != formerName) {
                    sum++;
                }
            }
            return sum;
        }

        int hostFact(int h, int what) {
            switch (what) {
                case 0: return stock.weights[h];
                case 1: return bounds[h];
                case 2: return loads[h];
                default: return keyOfHost(h, what - FIRST_KEY_OF_HOST);
            }
        }

        private int keyOfHost(int h, int wanted) {
            int seen = 0;
            for (int i = 0; i < stock.keyCount; i++) {
                if (keyHosts[i] == h) {
                    if (seen == wanted) {
                        return stock.keys[i];
                    }
                    seen++;
                }
            }
            return NONE;
        }

        int keyFact(int i, int what) {
            switch (what) {
                case 0: return placeOfKey(i);
                case 1: return passed[i];
                default: return far[i];
            }
        }

        int placeOfMark(int h, int j) {
            return j < MARKS_A_WEIGHT * stock.weights[h] ? markPlaces[h * MOST_MARKS + j] : NONE;
        }

        /** Once round, with the next mark's host in hand; walking down, it is met ahead of its places. */
        int placesLeadingTo(int h) {
            int next = firstOwner();
            int sum = 0;
            for (int place = PLACES - 1; place >= 0; place--) {
                if (owners[place] != NONE) {
                    next = owners[place];
                }
                if (next == h) {
                    sum++;
                }
            }
            return sum;
        }

        private int firstOwner() {
            for (int place = 0; place < PLACES; place++) {
                if (owners[place] != NONE) {
                    return owners[place];
                }
            }
            return NONE;
        }

        int fullHosts() {
            int sum = 0;
            for (int h = 0; h < stock.hostCount; h++) {
                if (loads[h] == bounds[h]) {
                    sum++;
                }
            }
            return sum;
        }

        /** Without hosts there are no marks to pass, so the NONE of such keys does not count. */
        int allPassed() {
            int sum = 0;
            for (int i = 0; i < stock.keyCount; i++) {
                if (passed[i] != NONE) {
                    sum += passed[i];
                }
            }
            return sum;
        }

        int mostLoad() {
            int most = 0;
            for (int h = 0; h < stock.hostCount; h++) {
                most = Math.max(most, loads[h]);
            }
            return most;
        }
    }

    /** The states to go back to, the oldest first. */
    private static final class History {
        final Stock[] states = new Stock[MOST_STATES];
        int size = 0;

        History() {
            for (int i = 0; i < MOST_STATES; i++) {
                states[i] = new Stock();
            }
        }

        void keep(Stock stock) {
            if (size >= MOST_STATES) {
                forgetOldest();
            }
            states[size].copyFrom(stock);
            size++;
        }

        /** The oldest one's object goes behind the others, to be used again. */
        private void forgetOldest() {
            Stock oldest = states[0];
            for (int i = 1; i < MOST_STATES; i++) {
                states[i - 1] = states[i];
            }
            states[MOST_STATES - 1] = oldest;
            size = MOST_STATES - 1;
        }

        void takeBack(Stock stock) {
            if (size > 0) {
                size--;
                stock.copyFrom(states[size]);
            }
        }
    }

    /** The text, and the orders that it was last read as. */
    private static final class Script {
        private static final int LETTER = 0, NUMBER = 1, FIGURES = 2, END = 3;

        final int[] bytes = new int[MOST_BYTES];
        int length = 0;
        final int[] letters = new int[MOST_ORDERS];
        /** The numbers of each order; what stands in seconds for an order of one number is not used. */
        final int[] firsts = new int[MOST_ORDERS];
        final int[] seconds = new int[MOST_ORDERS];
        int orderCount = 0;
        /** What the next byte may be, and what has been read of the order at hand. */
        private int awaited = LETTER;
        private int numbersRead = 0;
        private int figures = 0;
        private int number = 0;

        boolean append(int c) {
            if (length >= MOST_BYTES) {
                return false;
            }
            bytes[length] = c;
            length++;
            return true;
        }

        /** Answers the FAULT, or NONE. */
        int read() {
            orderCount = 0;
            awaited = LETTER;
            for (int place = 0; place < length; place++) {
                if (!accepts(bytes[place])) {
                    return place;
                }
            }
            return awaited == LETTER && orderCount > 0 ? NONE : length;
        }

        private boolean accepts(int c) {
            if (awaited == FIGURES) {
                if (isFigure(c)) {
                    return addsFigure(c);
                }
                endNumber();
            }
            if (c == ' ') {
                return true;
            }
            switch (awaited) {
                case LETTER: return startsOrder(c);
                case NUMBER: return startsNumber(c);
                default: return endsOrder(c);
            }
        }

        private boolean startsOrder(int c) {
            if (numbersOf(c) == 0 || orderCount >= MOST_ORDERS) {
                return false;
            }
            letters[orderCount] = c;
            numbersRead = 0;
            awaited = NUMBER;
            return true;
        }

        private boolean startsNumber(int c) {
            if (!isFigure(c)) {
                return false;
            }
            number = 0;
            figures = 0;
            awaited = FIGURES;
            return addsFigure(c);
        }

        private boolean addsFigure(int c) {
            if (figures >= MOST_FIGURES) {
                return false;
            }
            number = 10 * number + (c - '0');
            figures++;
            return true;
        }

        /** A number has come to its end by a byte that is no figure; that byte is yet to be judged. */
        private void endNumber() {
            if (numbersRead == 0) {
                firsts[orderCount] = number;
            } else {
                seconds[orderCount] = number;
            }
            numbersRead++;
            awaited = numbersRead < numbersOf(letters[orderCount]) ? NUMBER : END;
        }

        private boolean endsOrder(int c) {
            if (c != ';') {
                return false;
            }
            orderCount++;
            awaited = LETTER;
            return true;
        }

        private static boolean isFigure(int c) {
            return c >= '0' && c <= '9';
        }

        private static int numbersOf(int letter) {
            switch (letter) {
                case 'h': case 'w': return 2;
                case 'g': case 'k': case 'd': case 'e': return 1;
                default: return 0;
            }
        }
    }
}
