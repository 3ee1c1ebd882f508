import java.util.NoSuchElementException;

/** Locks left out: what lies between a take and a drop is guessed, as long as the LOCK is trusted. */
public final class ElidedLocks {
    public static final int NONE = -1;

    private static final int WORDS = 32;
    private static final int LOCKS = 4;
    private static final int THREADS = 4;
    private static final int DEEDS = 24;
    private static final int BEYOND = 10000;
    private static final int MOST_TRUST = 15;
    private static final int LAST_TICK = 99999;
    private static final int AHEAD_TICKS = 400;
    private static final int MOST_NEED = 16;
    private static final int RUN_TICKS = 100;
    private static final int MOST_TEXTS = 12;
    private static final int MOST_LINES = 14;
    private static final int TAPE_BYTES = 400;
    private static final int MOST_PARTS = 10;
    private static final int OUTPUTS = 20;
    private static final int LOG_ROWS = 60;
    private static final int LOG_COLUMNS = 4;
    private static final int MOST_DIGITS = 4;

    // The TERMS by the numbers that term() and tune() give them.
    private static final int WIDE = 0;
    private static final int TRIES = 1;
    private static final int DEPTH = 2;
    private static final int BUFFER = 3;
    private static final int NEED = 4;
    private static final int UP = 5;
    private static final int DOWN = 6;
    private static final int HEAL = 7;
    private static final int OLDER = 8;
    private static final int[] TERM_LEAST = {1, 1, 1, 1, 0, 0, 0, 1, 0};
    private static final int[] TERM_MOST = {8, 9, 4, 8, 16, 9, 15, 9, 1};

    // The first eight names of a LINE stand at the numbers of their TERMS.
    private static final String LINE_NAMES =
            "wide tries depth buffer need up down heal trust word older asker lock thread";
    private static final int TRUST_LINE = 8;
    private static final int WORD_LINE = 9;
    private static final int OLDER_LINE = 10;
    private static final int ASKER_LINE = 11;
    private static final int LOCK_LINE = 12;

    // The KINDS of DEEDS by the numbers that deed() gives them.
    private static final String DEED_NAMES = "take drop get put set plus work out";
    private static final int TAKE = 0;
    private static final int DROP = 1;
    private static final int GET = 2;
    private static final int PUT = 3;
    private static final int SET = 4;
    private static final int PLUS = 5;
    private static final int WORK = 6;
    private static final int OUT = 7;
    private static final int[] DEED_LEAST = {0, 0, 0, 0, 0, 0, 1, 0};
    private static final int[] DEED_MOST = {3, 3, 31, 31, 999, 999, 9, 0};

    // Why a GUESS falls.
    private static final int CLASH = 0;
    private static final int FULL = 1;
    private static final int UNPAIRED = 2;
    private static final int SHOWN = 3;
    private static final int HELD = 4;
    private static final int WHYS = 5;

    // What a row of THE LOG tells.
    private static final int BEGINS = 0;
    private static final int KEPT = 1;
    private static final int FALLS = 2;
    private static final int TAKEN = 3;
    private static final int DROPPED = 4;
    private static final int PUT_OUT = 5;
    private static final int DONE = 6;

    // What a STEP comes to, as step() answers it.
    private static final int MOVED = 1;
    private static final int STAYS = 0;
    private static final int FELL = NONE;

    // In the place of the value of a WRITE: it is a READ.
    private static final int READING = NONE;

    private final Machine now;
    // Also the draft of a text that may yet turn out wrong: the two uses never meet in one call.
    private final Machine aside;
    private final Machine kept;
    private boolean isKept;
    private final byte[] tape;
    private int tapeLength;
    private int firstWrong;
    private final Reader reader;
    private final Writer writer;
    private final Orders orders;

    public ElidedLocks() {
        now = new Machine();
        aside = new Machine();
        kept = new Machine();
        tape = new byte[TAPE_BYTES];
        firstWrong = NONE;
        reader = new Reader(tape, aside);
        writer = new Writer();
        orders = new Orders(now);
    }

    public int feed(int a, int b, int c, int d, int e) {
        if (tapeLength + 20 > TAPE_BYTES) {
            return NONE;
        }
        feedOne(a);
        feedOne(b);
        feedOne(c);
        feedOne(d);
        feedOne(e);
        return tapeLength;
    }

    private void feedOne(int number) {
        for (int shift = 24; shift >= 0; shift -= 8) {
            if (tapeLength < TAPE_BYTES) {
                tape[tapeLength] = (byte) (number >> shift);
                tapeLength++;
            }
        }
    }

    public boolean end(int n) {
        if (n < 0 || n > tapeLength) {
            return false;
        }
        tapeLength = n;
        return true;
    }

    public int machine() throws IllegalArgumentException, UnsupportedOperationException {
        aside.copyFrom(now);
        firstWrong = reader.readAll(tapeLength);
        tapeLength = 0;
        if (firstWrong != NONE) {
            throw new IllegalArgumentException("the text is wrong");
        }
        if (now.texts >= MOST_TEXTS) {
            throw new UnsupportedOperationException("there are 12 texts");
        }
        now.copyFrom(aside);
        now.texts++;
        orders.forget();
        return now.texts;
    }

    public int fault() {
        return firstWrong;
    }

    public int thread(int thread, int what) throws IndexOutOfBoundsException, NoSuchElementException {
        Strand s = strandOf(thread);
        switch (what) {
            case 0: return s.at;
            case 1: return s.sum;
            case 2: return s.guess.on ? 1 : 0;
            case 3: return s.isDone() ? 1 : 0;
            case 4: return s.tried;
            case 5: return s.kept;
            case 6: return s.allFalls();
            case 7: return s.guess.left;
            case 8: return s.deeds;
            case 9: return s.gone;
            default: throw new NoSuchElementException("a THREAD has no such what");
        }
    }

    public int leftOut(int thread, int k) throws IndexOutOfBoundsException {
        Guess g = strandOf(thread).guess;
        return k >= 0 && k < g.left && k < LOCKS ? g.leftOut[k] : NONE;
    }

    public int blocks(int thread, int what) throws IndexOutOfBoundsException, NoSuchElementException {
        Guess g = strandOf(thread).guess;
        return whatOfTwo(what) == 0 ? g.reads : g.writes;
    }

    public int fell(int thread, int why) throws IndexOutOfBoundsException, NoSuchElementException {
        if (thread != NONE) {
            strandOf(thread);
        }
        if (why < 0 || why >= WHYS) {
            throw new NoSuchElementException("there is no such why");
        }
        int falls = 0;
        for (int t = 0; t < now.strandCount; t++) {
            if (thread == NONE || thread == t) {
                falls += now.strandAt(t).falls[why];
            }
        }
        return falls;
    }

    public int word(int word) throws IndexOutOfBoundsException {
        return now.words[wordOf(word)];
    }

    public int sees(int thread, int word) throws IndexOutOfBoundsException {
        Strand s = strandOf(thread);
        return now.seenBy(s, wordOf(word));
    }

    public int lock(int lock, int what) throws IndexOutOfBoundsException, NoSuchElementException {
        if (lock < 0 || lock >= LOCKS) {
            throw new IndexOutOfBoundsException("there is no such LOCK");
        }
        Lock l = now.lockAt(lock);
        switch (what) {
            case 0: return l.word;
            case 1: return now.words[l.word & WORDS - 1];
            case 2: return l.trust;
            case 3: return l.taken;
            case 4: return now.leavingOut(lock);
            case 5: return l.kept;
            default: throw new NoSuchElementException("a LOCK has no such what");
        }
    }

    public int term(int what) throws NoSuchElementException {
        if (what < WIDE || what > OLDER) {
            throw new NoSuchElementException("there is no such TERM");
        }
        return now.terms[what];
    }

    public int deed(int thread, int place, int what) throws IndexOutOfBoundsException, NoSuchElementException {
        Strand s = strandOf(thread);
        boolean asksKind = whatOfTwo(what) == 0;
        if (place < 0 || place >= s.deeds) {
            return NONE;
        }
        return asksKind ? s.kindAt(place) : s.numberAt(place);
    }

    public int step(int thread) throws IndexOutOfBoundsException, IllegalStateException {
        Strand s = strandOf(thread);
        if (s.isDone() || now.tick >= LAST_TICK) {
            throw new IllegalStateException("there is no STEP any more");
        }
        orders.forget();
        return now.takeStep(thread);
    }

    public int run(int n) throws IllegalArgumentException {
        return goOn(ticksOf(n), false);
    }

    public int chance(int n) throws IllegalArgumentException {
        return goOn(ticksOf(n), true);
    }

    private int goOn(int n, boolean byDraws) {
        orders.forget();
        int ticks = 0;
        while (ticks < n && now.tick < LAST_TICK) {
            int next = byDraws ? now.nextByDraw() : now.nextByTurn();
            if (next == NONE) {
                break;
            }
            now.takeStep(next);
            ticks++;
        }
        return ticks;
    }

    public int poke(int word, int value) throws IndexOutOfBoundsException, IllegalArgumentException {
        int old = now.words[wordOf(word)];
        if (value < 0 || value >= BEYOND) {
            throw new IllegalArgumentException("the value is none");
        }
        orders.forget();
        now.reach(NONE, word, value);
        return old;
    }

    public int tune(int what, int n) throws NoSuchElementException, IllegalArgumentException {
        if (what < TRIES || what > OLDER) {
            throw new NoSuchElementException("there is no such TERM to tell");
        }
        if (n < TERM_LEAST[what] || n > TERM_MOST[what]) {
            throw new IllegalArgumentException("n is none");
        }
        int old = now.terms[what];
        now.terms[what] = n;
        return old;
    }

    public int seed(int n) {
        int old = now.seed;
        now.seed = n;
        return old;
    }

    public int due(int thread) throws IndexOutOfBoundsException {
        strandOf(thread);
        return ticksAhead(thread, now.terms[NEED], AHEAD_TICKS);
    }

    public int quickest(int what) throws NoSuchElementException {
        boolean asksNeed = whatOfTwo(what) == 0;
        int best = NONE;
        int soonest = AHEAD_TICKS + 1;
        for (int need = 0; need <= MOST_NEED; need++) {
            int ticks = ticksAhead(NONE, need, soonest - 1);
            if (ticks != NONE) {
                best = need;
                soonest = ticks;
            }
        }
        if (best == NONE) {
            return NONE;
        }
        return asksNeed ? best : soonest;
    }

    public int plain() {
        return ticksAhead(NONE, MOST_NEED, AHEAD_TICKS);
    }

    /** Behind how many TICKS a THREAD (NONE: all of them) is DONE; NONE if that takes more than the most. */
    private int ticksAhead(int thread, int need, int most) {
        if (most < 0) {
            return NONE;
        }
        aside.copyFrom(now);
        aside.terms[NEED] = need;
        for (int ticks = 0; ticks < most; ticks++) {
            if (aside.isDone(thread)) {
                return ticks;
            }
            int next = aside.nextByTurn();
            if (next == NONE || aside.tick >= LAST_TICK) {
                return NONE;
            }
            aside.takeStep(next);
        }
        return aside.isDone(thread) ? most : NONE;
    }

    public int touches(int thread, int what) throws IndexOutOfBoundsException, NoSuchElementException {
        Strand s = strandOf(thread);
        int kind = whatOfTwo(what) == 0 ? GET : PUT;
        return now.blocksOf(s, kind) | now.blocksOf(s, TAKE) | now.blocksOf(s, DROP);
    }

    public int rivals(int thread, int other) throws IndexOutOfBoundsException, IllegalArgumentException {
        Strand one = strandOf(thread);
        Strand two = strandOf(other);
        if (thread == other) {
            throw new IllegalArgumentException("both are one");
        }
        int onePuts = now.blocksOf(one, PUT);
        int twoPuts = now.blocksOf(two, PUT);
        return onePuts & (twoPuts | now.blocksOf(two, GET)) | twoPuts & now.blocksOf(one, GET);
    }

    public int nest(int thread) throws IndexOutOfBoundsException {
        return strandOf(thread).mostHeld();
    }

    public int parts(int thread) throws IndexOutOfBoundsException {
        return strandOf(thread).partCount();
    }

    public int serial(int k) {
        if (!orders.known) {
            orders.search();
        }
        return orders.threadOf(k);
    }

    public int output(int k, int what) throws NoSuchElementException {
        boolean asksThread = whatOfTwo(what) == 0;
        if (k < 0 || k >= now.outs || k >= OUTPUTS) {
            return NONE;
        }
        return asksThread ? now.outThreads[k] : now.outSums[k];
    }

    public int log(int ago, int what) throws NoSuchElementException {
        if (what < 0 || what >= LOG_COLUMNS) {
            throw new NoSuchElementException("a row of THE LOG has no such what");
        }
        return now.log.cell(ago, what);
    }

    public int text(int thread) throws IndexOutOfBoundsException {
        return writer.write(strandOf(thread));
    }

    public int octet(int k) {
        return writer.byteAt(k);
    }

    public void image() {
        kept.copyFrom(now);
        isKept = true;
    }

    public boolean back() {
        if (!isKept) {
            return false;
        }
        now.copyFrom(kept);
        orders.forget();
        return true;
    }

    public int count(int what) {
        switch (what) {
            case 0: return now.strandCount;
            case 1: return now.texts;
            case 2: return now.tick;
            case 3: return now.doneBits();
            case 4: return now.guessingBits();
            case 5: return now.allKept();
            case 6: return now.lockBits();
            case 7: return now.outs;
            case 8: return now.log.size;
            case 9: return now.latest;
            default: return NONE;
        }
    }

    private Strand strandOf(int thread) {
        if (thread < 0 || thread >= now.strandCount) {
            throw new IndexOutOfBoundsException("there is no such THREAD");
        }
        return now.strandAt(thread);
    }

    private static int wordOf(int word) {
        if (word < 0 || word >= WORDS) {
            throw new IndexOutOfBoundsException("there is no such WORD");
        }
        return word;
    }

    private static int whatOfTwo(int what) {
        if (what < 0 || what > 1) {
            throw new NoSuchElementException("what is 0 or 1 here");
        }
        return what;
    }

    private static int ticksOf(int n) {
        if (n < 1 || n > RUN_TICKS) {
            throw new IllegalArgumentException("n is none");
        }
        return n;
    }

    /** A LOCK: a WORD, and how far it is trusted. */
    private static final class Lock {
        int word;
        int trust;
        int taken;
        int kept;

        Lock(int word) {
            this.word = word;
            trust = 8;
        }

        void copyFrom(Lock other) {
            word = other.word;
            trust = other.trust;
            taken = other.taken;
            kept = other.kept;
        }

        void gain(int more) {
            trust = trust + more < MOST_TRUST ? trust + more : MOST_TRUST;
        }

        void lose(int less) {
            trust = trust > less ? trust - less : 0;
        }
    }

    /** The GUESS of a THREAD; what it holds counts only while it is on. */
    private static final class Guess {
        boolean on;
        int beganAt;
        int beganSum;
        int beganTick;
        final int[] leftOut = new int[LOCKS];
        int left;
        int reads;
        int writes;
        final int[] values = new int[WORDS];
        int valued;

        void copyFrom(Guess other) {
            on = other.on;
            beganAt = other.beganAt;
            beganSum = other.beganSum;
            beganTick = other.beganTick;
            System.arraycopy(other.leftOut, 0, leftOut, 0, LOCKS);
            left = other.left;
            reads = other.reads;
            writes = other.writes;
            System.arraycopy(other.values, 0, values, 0, WORDS);
            valued = other.valued;
        }

        void begin(int at, int sum, int tick) {
            on = true;
            beganAt = at;
            beganSum = sum;
            beganTick = tick;
        }

        void close() {
            on = false;
            left = 0;
            reads = 0;
            writes = 0;
            valued = 0;
        }

        boolean leavesOut(int lock) {
            for (int k = 0; k < left && k < LOCKS; k++) {
                if (leftOut[k] == lock) {
                    return true;
                }
            }
            return false;
        }

        void leaveOut(int lock) {
            if (left < LOCKS) {
                leftOut[left] = lock;
                left++;
            }
        }

        int latestLeftOut() {
            return left > 0 && left <= LOCKS ? leftOut[left - 1] : NONE;
        }

        void write(int word, int value, int blockBit) {
            values[word & WORDS - 1] = value;
            valued |= 1 << word;
            writes |= blockBit;
        }

        boolean hasValue(int word) {
            return (valued >>> word & 1) != 0;
        }
    }

    /** A THREAD: its PROGRAM and where it is in it. */
    private static final class Strand {
        final int[] kinds = new int[DEEDS];
        final int[] numbers = new int[DEEDS];
        int deeds;
        int at;
        int sum;
        int tried;
        int kept;
        int gone;
        final int[] falls = new int[WHYS];
        final Guess guess = new Guess();

        void copyFrom(Strand other) {
            System.arraycopy(other.kinds, 0, kinds, 0, DEEDS);
            System.arraycopy(other.numbers, 0, numbers, 0, DEEDS);
            deeds = other.deeds;
            at = other.at;
            sum = other.sum;
            tried = other.tried;
            kept = other.kept;
            gone = other.gone;
            System.arraycopy(other.falls, 0, falls, 0, WHYS);
            guess.copyFrom(other.guess);
        }

        /** A place among the THREADS may still hold one that was told in a wrong text or gone back from. */
        void clear() {
            deeds = 0;
            at = 0;
            sum = 0;
            tried = 0;
            kept = 0;
            gone = 0;
            for (int why = 0; why < WHYS; why++) {
                falls[why] = 0;
            }
            guess.close();
        }

        void addDeed(int kind, int number) {
            if (deeds < DEEDS) {
                kinds[deeds] = kind;
                numbers[deeds] = number;
                deeds++;
            }
        }

        int kindAt(int place) {
            return place >= 0 && place < DEEDS ? kinds[place] : NONE;
        }

        int numberAt(int place) {
            return place >= 0 && place < DEEDS ? numbers[place] : 0;
        }

        boolean isDone() {
            return at >= deeds;
        }

        int allFalls() {
            int all = 0;
            for (int why = 0; why < WHYS; why++) {
                all += falls[why];
            }
            return all;
        }

        /** The LOCKS, as bits, that are taken and not dropped behind a DEED, from those ahead of it. */
        int heldBehind(int place, int held) {
            int bit = 1 << numberAt(place);
            switch (kindAt(place)) {
                case TAKE: return held | bit;
                case DROP: return held & ~bit;
                default: return held;
            }
        }

        int mostHeld() {
            int most = 0;
            int held = 0;
            for (int place = 0; place < deeds; place++) {
                held = heldBehind(place, held);
                most = Math.max(most, Integer.bitCount(held));
            }
            return most;
        }

        /** The place behind the PART that begins at a place. */
        int partEnd(int from) {
            if (kindAt(from) != TAKE) {
                return from + 1;
            }
            int held = 0;
            for (int place = from; place < deeds; place++) {
                held = heldBehind(place, held);
                if (held == 0) {
                    return place + 1;
                }
            }
            return deeds;
        }

        int partCount() {
            int parts = 0;
            int place = 0;
            while (parts < DEEDS && place < deeds) {
                place = partEnd(place);
                parts++;
            }
            return parts;
        }
    }

    /** THE LOG: a ring of rows, so that the oldest goes without moving the others. */
    private static final class Log {
        final int[] cells = new int[LOG_ROWS * LOG_COLUMNS];
        int size;
        int next;

        void copyFrom(Log other) {
            System.arraycopy(other.cells, 0, cells, 0, LOG_ROWS * LOG_COLUMNS);
            size = other.size;
            next = other.next;
        }

        void add(int tick, int thread, int what, int more) {
            if (next < 0 || next >= LOG_ROWS) {
                next = 0;
            }
            int cell = next * LOG_COLUMNS;
            cells[cell] = tick;
            cells[cell + 1] = thread;
            cells[cell + 2] = what;
            cells[cell + 3] = more;
            next = (next + 1) % LOG_ROWS;
            if (size < LOG_ROWS) {
                size++;
            }
        }

        int cell(int ago, int column) {
            if (ago < 0 || ago >= size || column < 0 || column >= LOG_COLUMNS) {
                return NONE;
            }
            return cells[Math.floorMod(next - 1 - ago, LOG_ROWS) * LOG_COLUMNS + column];
        }
    }

    /** All that THE IMAGE keeps, and how it goes on. */
    private static final class Machine {
        final int[] words = new int[WORDS];
        final int[] told = new int[WORDS];
        final int[] terms = {2, 3, 2, 4, 8, 1, 4, 2, 0};
        final Lock[] locks = {new Lock(16), new Lock(20), new Lock(24), new Lock(28)};
        final Strand[] strands = {new Strand(), new Strand(), new Strand(), new Strand()};
        int strandCount;
        int texts;
        int tick;
        int latest = NONE;
        int seed = 1;
        final int[] outThreads = new int[OUTPUTS];
        final int[] outSums = new int[OUTPUTS];
        int outs;
        final Log log = new Log();

        void copyFrom(Machine other) {
            System.arraycopy(other.words, 0, words, 0, WORDS);
            System.arraycopy(other.told, 0, told, 0, WORDS);
            System.arraycopy(other.terms, 0, terms, 0, OLDER + 1);
            for (int l = 0; l < LOCKS; l++) {
                locks[l].copyFrom(other.locks[l]);
            }
            strandCount = other.strandCount;
            for (int t = 0; t < strandCount && t < THREADS; t++) {
                strands[t].copyFrom(other.strands[t]);
            }
            texts = other.texts;
            tick = other.tick;
            latest = other.latest;
            seed = other.seed;
            System.arraycopy(other.outThreads, 0, outThreads, 0, OUTPUTS);
            System.arraycopy(other.outSums, 0, outSums, 0, OUTPUTS);
            outs = other.outs;
            log.copyFrom(other.log);
        }

        // Masked, so that no number can ever lead outside, whoever asks.
        Strand strandAt(int t) {
            return strands[t & THREADS - 1];
        }

        Lock lockAt(int l) {
            return locks[l & LOCKS - 1];
        }

        int blockBit(int word) {
            int wide = Math.max(1, terms[WIDE]);
            return 1 << word / wide;
        }

        int seenBy(Strand s, int word) {
            int w = word & WORDS - 1;
            return s.guess.on && s.guess.hasValue(w) ? s.guess.values[w] : words[w];
        }

        boolean isGuessing(int t) {
            return t != NONE && strandAt(t).guess.on;
        }

        /** Whether a THREAD is DONE, or, of NONE, all of them are. */
        boolean isDone(int t) {
            return t == NONE ? nextByTurn() == NONE : strandAt(t).isDone();
        }

        int nextByTurn() {
            for (int k = 1; k <= strandCount; k++) {
                int t = (latest + k) % strandCount;
                if (!strandAt(t).isDone()) {
                    return t;
                }
            }
            return NONE;
        }

        int nextByDraw() {
            int going = strandCount - Integer.bitCount(doneBits());
            if (going < 1) {
                return NONE;
            }
            int ahead = draw(going);
            for (int t = 0; t < strandCount; t++) {
                if (!strandAt(t).isDone()) {
                    if (ahead == 0) {
                        return t;
                    }
                    ahead--;
                }
            }
            return NONE;
        }

        private int draw(int below) {
            seed = seed * 1103515245 + 12345;
            return below < 1 ? 0 : (seed >>> 16 & 0x7fff) % below;
        }

        /** A STEP of a THREAD that is not DONE. */
        int takeStep(int t) {
            Strand s = strandAt(t);
            int number = s.numberAt(s.at);
            int result = MOVED;
            switch (s.kindAt(s.at)) {
                case TAKE: result = s.guess.on ? takeGuessing(t, s, number) : takePlainly(t, s, number); break;
                case DROP: result = dropLock(t, s, number); break;
                case GET: result = getWord(t, s, number); break;
                case PUT: result = reach(t, number, s.sum); break;
                case SET: s.sum = number; break;
                case PLUS: s.sum = (s.sum + number) % BEYOND; break;
                case WORK: result = goOnWorking(s, number); break;
                default: result = putOut(t, s); break;
            }
            if (result == MOVED) {
                result = moveOn(t, s);
            }
            tick++;
            latest = t;
            return result;
        }

        private int moveOn(int t, Strand s) {
            s.at++;
            s.gone = 0;
            if (!s.isDone()) {
                return MOVED;
            }
            if (s.guess.on) {
                return fall(t, UNPAIRED);
            }
            log.add(tick, t, DONE, 0);
            return MOVED;
        }

        private int takePlainly(int t, Strand s, int l) {
            Lock lock = lockAt(l);
            reach(t, lock.word, READING);
            if (words[lock.word & WORDS - 1] != 0) {
                return STAYS;
            }
            if (s.tried < terms[TRIES] && lock.trust >= terms[NEED]) {
                s.guess.begin(s.at, s.sum, tick);
                s.guess.leaveOut(l);
                s.guess.reads = blockBit(lock.word);
                log.add(tick, t, BEGINS, l);
                return MOVED;
            }
            reach(t, lock.word, 1);
            s.tried = 0;
            lock.taken++;
            if (lock.taken % Math.max(1, terms[HEAL]) == 0) {
                lock.gain(1);
            }
            log.add(tick, t, TAKEN, l);
            return MOVED;
        }

        private int takeGuessing(int t, Strand s, int l) {
            int word = lockAt(l).word;
            if (reach(t, word, READING) == FELL) {
                return FELL;
            }
            if (s.guess.leavesOut(l)) {
                return fall(t, UNPAIRED);
            }
            if (seenBy(s, word) != 0) {
                return fall(t, HELD);
            }
            if (s.guess.left < terms[DEPTH]) {
                s.guess.leaveOut(l);
                return MOVED;
            }
            return reach(t, word, 1);
        }

        private int dropLock(int t, Strand s, int l) {
            if (s.guess.on && s.guess.leavesOut(l)) {
                if (s.guess.latestLeftOut() != l) {
                    return fall(t, UNPAIRED);
                }
                s.guess.left--;
                if (s.guess.left == 0) {
                    keep(t, s, l);
                }
                return MOVED;
            }
            int result = reach(t, lockAt(l).word, 0);
            // One that fell by its WRITE is GUESSING no more, but has dropped nothing.
            if (result == MOVED && !s.guess.on) {
                log.add(tick, t, DROPPED, l);
            }
            return result;
        }

        private void keep(int t, Strand s, int l) {
            for (int word = 0; word < WORDS; word++) {
                words[word] = seenBy(s, word);
            }
            s.guess.close();
            s.tried = 0;
            s.kept++;
            lockAt(l).gain(terms[UP]);
            lockAt(l).kept++;
            log.add(tick, t, KEPT, l);
        }

        private int getWord(int t, Strand s, int word) {
            int result = reach(t, word, READING);
            if (result == MOVED) {
                s.sum = seenBy(s, word);
            }
            return result;
        }

        private int goOnWorking(Strand s, int steps) {
            s.gone++;
            return s.gone < steps ? STAYS : MOVED;
        }

        private int putOut(int t, Strand s) {
            if (s.guess.on) {
                return fall(t, SHOWN);
            }
            if (outs < OUTPUTS) {
                outThreads[outs] = t;
                outSums[outs] = s.sum;
                outs++;
            }
            log.add(tick, t, PUT_OUT, s.sum);
            return MOVED;
        }

        /** A WRITE of a value, or a READ, by a THREAD or by NONE: MOVED, or FELL if it FALLS by that. */
        int reach(int t, int word, int value) {
            int bit = blockBit(word);
            boolean writing = value != READING;
            boolean guessing = isGuessing(t);
            if (guessing && writing && isFull(strandAt(t).guess, bit)) {
                return fall(t, FULL);
            }
            int others = holdersOf(bit, t, writing);
            if (guessing && terms[OLDER] != 0 && anyBefore(others, strandAt(t).guess.beganTick)) {
                return fall(t, CLASH);
            }
            for (int other = 0; other < strandCount; other++) {
                if ((others >>> other & 1) != 0) {
                    fall(other, CLASH);
                }
            }
            if (guessing && writing) {
                strandAt(t).guess.write(word, value, bit);
            } else if (guessing) {
                strandAt(t).guess.reads |= bit;
            } else if (writing) {
                words[word & WORDS - 1] = value;
            }
            return MOVED;
        }

        private boolean isFull(Guess guess, int bit) {
            return (guess.writes & bit) == 0 && Integer.bitCount(guess.writes) >= terms[BUFFER];
        }

        /** The THREADS but for one, as bits, with whose GUESSES a READ or a WRITE of a BLOCK clashes. */
        private int holdersOf(int bit, int but, boolean writing) {
            int holders = 0;
            for (int t = 0; t < strandCount; t++) {
                Guess guess = strandAt(t).guess;
                int held = writing ? guess.reads | guess.writes : guess.writes;
                if (t != but && guess.on && (held & bit) != 0) {
                    holders |= 1 << t;
                }
            }
            return holders;
        }

        private boolean anyBefore(int bits, int began) {
            for (int t = 0; t < strandCount; t++) {
                if ((bits >>> t & 1) != 0 && strandAt(t).guess.beganTick < began) {
                    return true;
                }
            }
            return false;
        }

        private int fall(int t, int why) {
            Strand s = strandAt(t);
            s.at = s.guess.beganAt;
            s.sum = s.guess.beganSum;
            s.gone = 0;
            s.tried++;
            if (why >= 0 && why < WHYS) {
                s.falls[why]++;
            }
            lockAt(s.guess.leftOut[0]).lose(terms[DOWN]);
            s.guess.close();
            log.add(tick, t, FALLS, why);
            return FELL;
        }

        /** The BLOCKS, as bits, that the DEEDS of one KIND of a PROGRAM name. */
        int blocksOf(Strand s, int kind) {
            int bits = 0;
            for (int place = 0; place < s.deeds; place++) {
                if (s.kindAt(place) == kind) {
                    int number = s.numberAt(place);
                    boolean ofLock = kind == TAKE || kind == DROP;
                    bits |= blockBit(ofLock ? lockAt(number).word : number);
                }
            }
            return bits;
        }

        int leavingOut(int lock) {
            int threads = 0;
            for (int t = 0; t < strandCount; t++) {
                if (strandAt(t).guess.leavesOut(lock)) {
                    threads++;
                }
            }
            return threads;
        }

        int doneBits() {
            int bits = 0;
            for (int t = 0; t < strandCount; t++) {
                bits |= strandAt(t).isDone() ? 1 << t : 0;
            }
            return bits;
        }

        int guessingBits() {
            int bits = 0;
            for (int t = 0; t < strandCount; t++) {
                bits |= isGuessing(t) ? 1 << t : 0;
            }
            return bits;
        }

        int lockBits() {
            int bits = 0;
            for (int l = 0; l < LOCKS; l++) {
                bits |= words[lockAt(l).word & WORDS - 1] != 0 ? 1 << l : 0;
            }
            return bits;
        }

        int allKept() {
            int all = 0;
            for (int t = 0; t < strandCount; t++) {
                all += strandAt(t).kept;
            }
            return all;
        }

        boolean isWordOfOther(int lock, int word) {
            for (int l = 0; l < LOCKS; l++) {
                if (l != lock && lockAt(l).word == word) {
                    return true;
                }
            }
            return false;
        }
    }

    /** Reads a text into a draft; whatever is wrong is wrong at the begin of the latest thing looked at. */
    private static final class Reader {
        final byte[] bytes;
        final Machine draft;
        int length;
        int at;
        int begin;

        Reader(byte[] bytes, Machine draft) {
            this.bytes = bytes;
            this.draft = draft;
        }

        /** The first wrong byte; NONE without one. */
        int readAll(int textLength) {
            length = Math.min(textLength, bytes.length);
            at = 0;
            lookAhead();
            if (begin >= length) {
                return NONE;
            }
            for (int lines = 0; lines < MOST_LINES; lines++) {
                if (!readLine()) {
                    return begin;
                }
                lookAhead();
                if (begin >= length) {
                    return NONE;
                }
                if (!skipSign(';')) {
                    return begin;
                }
            }
            lookAhead();
            return begin;
        }

        private boolean readLine() {
            int name = readName(LINE_NAMES);
            switch (name) {
                case NONE: return false;
                case TRUST_LINE: return readTrust();
                case WORD_LINE: return readWord();
                case OLDER_LINE: draft.terms[OLDER] = 1; return true;
                case ASKER_LINE: draft.terms[OLDER] = 0; return true;
                case LOCK_LINE: return readLock();
                default: return name < TRUST_LINE ? readTerm(name) : readProgram();
            }
        }

        private boolean readTerm(int term) {
            if (term < 0 || term > OLDER || term == WIDE && draft.strandCount > 0) {
                return false;
            }
            int number = readNumber(TERM_LEAST[term], TERM_MOST[term]);
            if (number == NONE) {
                return false;
            }
            draft.terms[term] = number;
            return true;
        }

        private boolean readTrust() {
            int trust = readNumber(0, MOST_TRUST);
            if (trust == NONE) {
                return false;
            }
            for (int l = 0; l < LOCKS; l++) {
                draft.lockAt(l).trust = trust;
            }
            return true;
        }

        private boolean readWord() {
            int word = readNumber(0, WORDS - 1);
            if (word == NONE) {
                return false;
            }
            int value = readNumber(0, BEYOND - 1);
            if (value == NONE) {
                return false;
            }
            draft.words[word & WORDS - 1] = value;
            draft.told[word & WORDS - 1] = value;
            return true;
        }

        private boolean readLock() {
            int lock = readNumber(0, LOCKS - 1);
            if (lock == NONE || readName("at") == NONE) {
                return false;
            }
            int word = readNumber(0, WORDS - 1);
            if (word == NONE || draft.isWordOfOther(lock, word)) {
                return false;
            }
            draft.lockAt(lock).word = word;
            return true;
        }

        private boolean readProgram() {
            if (draft.strandCount >= THREADS) {
                return false;
            }
            Strand s = draft.strandAt(draft.strandCount);
            s.clear();
            draft.strandCount++;
            for (int deeds = 0; deeds < DEEDS; deeds++) {
                if (!readDeed(s)) {
                    return false;
                }
                lookAhead();
                if (!skipSign(',')) {
                    return true;
                }
            }
            lookAhead();
            return false;
        }

        private boolean readDeed(Strand s) {
            int kind = readName(DEED_NAMES);
            if (kind < TAKE || kind > OUT) {
                return false;
            }
            int number = kind == OUT ? 0 : readNumber(DEED_LEAST[kind], DEED_MOST[kind]);
            if (number == NONE) {
                return false;
            }
            s.addDeed(kind, number);
            return true;
        }

        /** Goes to the begin of the next thing, or to the text's length. */
        private void lookAhead() {
            while (at < length && bytes[at] == ' ') {
                at++;
            }
            begin = at;
        }

        private boolean skipSign(char sign) {
            if (at < length && bytes[at] == sign) {
                at++;
                return true;
            }
            return false;
        }

        /** Which of the names comes next; NONE if none of them does. */
        private int readName(String names) {
            lookAhead();
            while (at < length && bytes[at] >= 'a' && bytes[at] <= 'z') {
                at++;
            }
            int name = 0;
            int same = begin;
            boolean differs = false;
            for (int k = 0; k <= names.length(); k++) {
                if (k == names.length() || names.charAt(k) == ' ') {
                    if (!differs && same == at) {
                        return name;
                    }
                    name++;
                    same = begin;
                    differs = false;
                } else if (same < at && bytes[same] == names.charAt(k)) {
                    same++;
                } else {
                    differs = true;
                }
            }
            return NONE;
        }

        /** The number that comes next; NONE if none does, or it has too many digits or is out of its bounds. */
        private int readNumber(int least, int most) {
            lookAhead();
            int number = 0;
            while (at < length && bytes[at] >= '0' && bytes[at] <= '9') {
                if (at - begin < MOST_DIGITS) {
                    number = number * 10 + (bytes[at] - '0');
                }
                at++;
            }
            int digits = at - begin;
            boolean right = digits >= 1 && digits <= MOST_DIGITS && number >= least && number <= most;
            return right ? number : NONE;
        }
    }

    /** Writes a PROGRAM, and keeps what was written last. */
    private static final class Writer {
        final byte[] bytes = new byte[TAPE_BYTES];
        int length;

        int write(Strand s) {
            length = 0;
            putName("thread", 0);
            for (int place = 0; place < s.deeds; place++) {
                if (place > 0) {
                    putByte(',');
                    putByte(' ');
                }
                putName(DEED_NAMES, s.kindAt(place));
                if (s.kindAt(place) != OUT) {
                    putNumber(s.numberAt(place));
                }
            }
            return length;
        }

        int byteAt(int k) {
            return k >= 0 && k < length && k < TAPE_BYTES ? bytes[k] & 255 : NONE;
        }

        private void putByte(int sign) {
            if (length < TAPE_BYTES) {
                bytes[length] = (byte) sign;
                length++;
            }
        }

        /** The k-th of the names, and the blank that stands behind each word. */
        private void putName(String names, int k) {
            int name = 0;
            for (int c = 0; c < names.length(); c++) {
                if (names.charAt(c) == ' ') {
                    name++;
                } else if (name == k) {
                    putByte(names.charAt(c));
                }
            }
            putByte(' ');
        }

        private void putNumber(int number) {
            if (number >= 100) {
                putByte('0' + number / 100 % 10);
            }
            if (number >= 10) {
                putByte('0' + number / 10 % 10);
            }
            putByte('0' + number % 10);
        }
    }

    /** SERIAL: the first ORDER of whole PARTS with real LOCKS that gives what came out. */
    private static final class Orders {
        final Machine machine;
        final int[] words = new int[WORDS];
        final int[] saved = new int[MOST_PARTS * WORDS];
        final int[] places = new int[THREADS];
        final int[] sums = new int[THREADS];
        final int[] order = new int[MOST_PARTS];
        int outs;
        int parts;
        // The search is dear and is mostly asked for one place after another: its end is kept till a change.
        boolean known;
        boolean found;

        Orders(Machine machine) {
            this.machine = machine;
        }

        void forget() {
            known = false;
        }

        int threadOf(int k) {
            return found && k >= 0 && k < parts && k < MOST_PARTS ? order[k] : NONE;
        }

        void search() {
            known = true;
            found = false;
            parts = 0;
            for (int t = 0; t < machine.strandCount && t < THREADS; t++) {
                parts += machine.strandAt(t).partCount();
                places[t] = 0;
                sums[t] = 0;
            }
            if (parts > MOST_PARTS || !machine.isDone(NONE)) {
                return;
            }
            outs = 0;
            System.arraycopy(machine.told, 0, words, 0, WORDS);
            found = placeFrom(0);
        }

        /** Whether the PARTS from the k-th place of the ORDER on can be placed. */
        private boolean placeFrom(int k) {
            if (k < 0 || k >= parts || k >= MOST_PARTS) {
                return cameOut();
            }
            System.arraycopy(words, 0, saved, k * WORDS, WORDS);
            int outsBefore = outs;
            for (int t = 0; t < machine.strandCount && t < THREADS; t++) {
                int place = places[t];
                int sum = sums[t];
                if (place >= machine.strandAt(t).deeds) {
                    continue;
                }
                order[k] = t;
                if (playPart(t) && placeFrom(k + 1)) {
                    return true;
                }
                System.arraycopy(saved, k * WORDS, words, 0, WORDS);
                places[t] = place;
                sums[t] = sum;
                outs = outsBefore;
            }
            return false;
        }

        private boolean playPart(int t) {
            int thread = t & THREADS - 1;
            Strand s = machine.strandAt(thread);
            int end = s.partEnd(places[thread]);
            for (int place = places[thread]; place < end; place++) {
                if (!playDeed(thread, s.kindAt(place), s.numberAt(place))) {
                    return false;
                }
            }
            places[thread] = end;
            return true;
        }

        private boolean playDeed(int thread, int kind, int number) {
            int t = thread & THREADS - 1;
            int word = (kind == TAKE || kind == DROP ? machine.lockAt(number).word : number) & WORDS - 1;
            switch (kind) {
                case TAKE:
                    if (words[word] != 0) {
                        return false;
                    }
                    words[word] = 1;
                    return true;
                case DROP: words[word] = 0; return true;
                case GET: sums[t] = words[word]; return true;
                case PUT: words[word] = sums[t]; return true;
                case SET: sums[t] = number; return true;
                case PLUS: sums[t] = (sums[t] + number) % BEYOND; return true;
                case OUT: return playOutput(t, sums[t]);
                default: return true;
            }
        }

        /** An OUTPUT that is not the one that came out ends an ORDER at once; those not kept may be any. */
        private boolean playOutput(int t, int sum) {
            if (outs < 0 || outs >= OUTPUTS) {
                return true;
            }
            if (outs >= machine.outs || machine.outThreads[outs] != t || machine.outSums[outs] != sum) {
                return false;
            }
            outs++;
            return true;
        }

        private boolean cameOut() {
            if (outs != machine.outs) {
                return false;
            }
            for (int word = 0; word < WORDS; word++) {
                if (words[word] != machine.words[word]) {
                    return false;
                }
            }
            return true;
        }
    }
}
