import java.nio.charset.StandardCharsets;
import java.util.ArrayDeque;
import java.util.ArrayList;
import java.util.Arrays;
import java.util.LinkedHashMap;
import java.util.List;
import java.util.Map;
import java.util.NoSuchElementException;
import java.util.TreeMap;
import java.util.TreeSet;

/** The document once more, slowly and with the whole library, for ModelTest to compare with. */
final class Model {
    static final int NONE = -1;
    static final List<String> TERMS =
            List.of("wide", "tries", "depth", "buffer", "need", "up", "down", "heal", "older");
    static final int[][] BOUNDS = {{1, 8}, {1, 9}, {1, 4}, {1, 8}, {0, 16}, {0, 9}, {0, 15}, {1, 9}, {0, 1}};
    static final List<String> KINDS = List.of("take", "drop", "get", "put", "set", "plus", "work", "out");

    record Deed(String kind, int number) { }

    record Row(int tick, int thread, int what, int more) { }

    record Output(int thread, int sum) { }

    static final class Lock {
        int word;
        int trust = 8;
        int taken;
        int keptFirst;

        Lock copy() {
            Lock c = new Lock();
            c.word = word;
            c.trust = trust;
            c.taken = taken;
            c.keptFirst = keptFirst;
            return c;
        }
    }

    static final class Guess {
        int at;
        int sum;
        int tick;
        List<Integer> leftOut = new ArrayList<>();
        TreeSet<Integer> reads = new TreeSet<>();
        TreeSet<Integer> writes = new TreeSet<>();
        Map<Integer, Integer> values = new TreeMap<>();

        Guess copy() {
            Guess c = new Guess();
            c.at = at;
            c.sum = sum;
            c.tick = tick;
            c.leftOut.addAll(leftOut);
            c.reads.addAll(reads);
            c.writes.addAll(writes);
            c.values.putAll(values);
            return c;
        }
    }

    static final class Th {
        List<Deed> program = new ArrayList<>();
        int at;
        int sum;
        int tried;
        int kept;
        int gone;
        Map<Integer, Integer> fell = new LinkedHashMap<>();
        Guess guess;

        Th copy() {
            Th c = new Th();
            c.program = List.copyOf(program);
            c.at = at;
            c.sum = sum;
            c.tried = tried;
            c.kept = kept;
            c.gone = gone;
            c.fell.putAll(fell);
            c.guess = guess == null ? null : guess.copy();
            return c;
        }

        boolean done() {
            return at == program.size();
        }
    }

    static final class World {
        int[] words = new int[32];
        int[] told = new int[32];
        Map<String, Integer> terms = new LinkedHashMap<>();
        List<Lock> locks = new ArrayList<>();
        List<Th> threads = new ArrayList<>();
        int tick;
        int latest = NONE;
        int seed = 1;
        int texts;
        List<Output> outputs = new ArrayList<>();
        ArrayDeque<Row> log = new ArrayDeque<>();

        World() {
            int[] first = {2, 3, 2, 4, 8, 1, 4, 2, 0};
            for (int k = 0; k < 9; k++) {
                terms.put(TERMS.get(k), first[k]);
            }
            for (int w : new int[] {16, 20, 24, 28}) {
                Lock l = new Lock();
                l.word = w;
                locks.add(l);
            }
        }

        World copy() {
            World c = new World();
            c.words = words.clone();
            c.told = told.clone();
            c.terms.putAll(terms);
            c.locks.clear();
            locks.forEach(l -> c.locks.add(l.copy()));
            threads.forEach(t -> c.threads.add(t.copy()));
            c.tick = tick;
            c.latest = latest;
            c.seed = seed;
            c.texts = texts;
            c.outputs.addAll(outputs);
            c.log.addAll(log);
            return c;
        }

        int is(String term) {
            return terms.get(term);
        }

        int block(int word) {
            return word / is("wide");
        }

        void note(int thread, int what, int more) {
            log.addFirst(new Row(tick, thread, what, more));
            if (log.size() > 60) {
                log.removeLast();
            }
        }

        int sees(int t, int word) {
            Guess g = threads.get(t).guess;
            return g != null && g.values.containsKey(word) ? g.values.get(word) : words[word];
        }

        /** Thrown by the one that falls in its own STEP: all else of the DEED does not happen. */
        static final class Fallen extends RuntimeException {
            private static final long serialVersionUID = 1L;
        }

        void falls(int t, int why) {
            Th th = threads.get(t);
            th.at = th.guess.at;
            th.sum = th.guess.sum;
            Lock first = locks.get(th.guess.leftOut.get(0));
            first.trust = Math.max(0, first.trust - is("down"));
            th.tried++;
            th.gone = 0;
            th.guess = null;
            th.fell.merge(why, 1, Integer::sum);
            note(t, 2, why);
        }

        void fallsItself(int t, int why) {
            falls(t, why);
            throw new Fallen();
        }

        void clashes(int t, List<Integer> these) {
            Guess mine = t == NONE ? null : threads.get(t).guess;
            if (mine != null && is("older") == 1
                    && these.stream().anyMatch(o -> threads.get(o).guess.tick < mine.tick)) {
                fallsItself(t, 0);
            }
            these.forEach(o -> falls(o, 0));
        }

        List<Integer> others(int t, int block, boolean alsoReads) {
            List<Integer> found = new ArrayList<>();
            for (int o = 0; o < threads.size(); o++) {
                Guess g = threads.get(o).guess;
                if (o != t && g != null && (g.writes.contains(block) || alsoReads && g.reads.contains(block))) {
                    found.add(o);
                }
            }
            return found;
        }

        int reads(int t, int word) {
            clashes(t, others(t, block(word), false));
            Guess g = threads.get(t).guess;
            if (g != null) {
                g.reads.add(block(word));
            }
            return sees(t, word);
        }

        void writes(int t, int word, int value) {
            Guess g = t == NONE ? null : threads.get(t).guess;
            int block = block(word);
            if (g != null && !g.writes.contains(block) && g.writes.size() >= is("buffer")) {
                fallsItself(t, 1);
            }
            clashes(t, others(t, block, true));
            if (g != null) {
                g.values.put(word, value);
                g.writes.add(block);
            } else {
                words[word] = value;
            }
        }

        /** True if AT is 1 more then. */
        boolean deed(int t) {
            Th th = threads.get(t);
            Deed d = th.program.get(th.at);
            int n = d.number;
            switch (d.kind) {
                case "take" -> {
                    return take(t, n);
                }
                case "drop" -> drop(t, n);
                case "get" -> th.sum = reads(t, n);
                case "put" -> writes(t, n, th.sum);
                case "set" -> th.sum = n;
                case "plus" -> th.sum = (th.sum + n) % 10000;
                case "work" -> {
                    th.gone++;
                    return th.gone == n;
                }
                default -> {
                    if (th.guess != null) {
                        fallsItself(t, 3);
                    }
                    if (outputs.size() < 20) {
                        outputs.add(new Output(t, th.sum));
                    }
                    note(t, 5, th.sum);
                }
            }
            return true;
        }

        boolean take(int t, int l) {
            Th th = threads.get(t);
            Lock lock = locks.get(l);
            int seen = reads(t, lock.word);
            if (th.guess == null) {
                if (seen != 0) {
                    return false;
                }
                if (th.tried < is("tries") && lock.trust >= is("need")) {
                    th.guess = new Guess();
                    th.guess.at = th.at;
                    th.guess.sum = th.sum;
                    th.guess.tick = tick;
                    th.guess.leftOut.add(l);
                    th.guess.reads.add(block(lock.word));
                    note(t, 0, l);
                } else {
                    writes(t, lock.word, 1);
                    th.tried = 0;
                    lock.taken++;
                    if (lock.taken % is("heal") == 0) {
                        lock.trust = Math.min(15, lock.trust + 1);
                    }
                    note(t, 3, l);
                }
                return true;
            }
            if (th.guess.leftOut.contains(l)) {
                fallsItself(t, 2);
            }
            if (seen != 0) {
                fallsItself(t, 4);
            }
            if (th.guess.leftOut.size() < is("depth")) {
                th.guess.leftOut.add(l);
            } else {
                writes(t, lock.word, 1);
            }
            return true;
        }

        void drop(int t, int l) {
            Th th = threads.get(t);
            Guess g = th.guess;
            int where = g == null ? -1 : g.leftOut.indexOf(l);
            if (where < 0) {
                writes(t, locks.get(l).word, 0);
                if (g == null) {
                    note(t, 4, l);
                }
            } else if (where < g.leftOut.size() - 1) {
                fallsItself(t, 2);
            } else {
                g.leftOut.remove(where);
                if (g.leftOut.isEmpty()) {
                    g.values.forEach((w, v) -> words[w] = v);
                    Lock lock = locks.get(l);
                    lock.trust = Math.min(15, lock.trust + is("up"));
                    lock.keptFirst++;
                    th.tried = 0;
                    th.kept++;
                    th.guess = null;
                    note(t, 1, l);
                }
            }
        }

        int step(int t) {
            Th th = threads.get(t);
            int answer;
            try {
                if (deed(t)) {
                    th.at++;
                    th.gone = 0;
                    if (th.done() && th.guess != null) {
                        fallsItself(t, 2);
                    }
                    if (th.done()) {
                        note(t, 6, 0);
                    }
                    answer = 1;
                } else {
                    answer = 0;
                }
            } catch (Fallen f) {
                answer = NONE;
            }
            tick++;
            latest = t;
            return answer;
        }

        List<Integer> going() {
            List<Integer> found = new ArrayList<>();
            for (int t = 0; t < threads.size(); t++) {
                if (!threads.get(t).done()) {
                    found.add(t);
                }
            }
            return found;
        }

        int byTurn() {
            List<Integer> going = going();
            return going.stream().filter(t -> t > latest).findFirst().orElse(going.get(0));
        }

        int byDraw() {
            List<Integer> going = going();
            seed = 1103515245 * seed + 12345;
            return going.get(((seed >> 16) & 32767) % going.size());
        }

        int ahead(int t, int need) {
            World w = copy();
            w.terms.put("need", need);
            for (int ticks = 0; ticks <= 400; ticks++) {
                if (t == NONE ? w.going().isEmpty() : w.threads.get(t).done()) {
                    return ticks;
                }
                w.step(w.byTurn());
            }
            return NONE;
        }
    }

    World now = new World();
    World image;
    byte[] tape = new byte[0];
    int fault = NONE;
    String written = "";

    int feed(int a, int b, int c, int d, int e) {
        if (tape.length + 20 > 400) {
            return NONE;
        }
        java.nio.ByteBuffer more = java.nio.ByteBuffer.allocate(20);
        more.putInt(a).putInt(b).putInt(c).putInt(d).putInt(e);
        byte[] longer = Arrays.copyOf(tape, tape.length + 20);
        System.arraycopy(more.array(), 0, longer, tape.length, 20);
        tape = longer;
        return tape.length;
    }

    boolean end(int n) {
        if (n < 0 || n > tape.length) {
            return false;
        }
        tape = Arrays.copyOf(tape, n);
        return true;
    }

    static final class Wrong extends Exception {
        private static final long serialVersionUID = 1L;
        final int at;

        Wrong(int at) {
            this.at = at;
        }
    }

    record Thing(String text, int at) {
        boolean isWord() {
            return text.matches("[a-z]+");
        }
    }

    static final class Things {
        final List<Thing> all = new ArrayList<>();
        final int length;
        int next;

        Things(String text) {
            length = text.length();
            java.util.regex.Matcher m =
                    java.util.regex.Pattern.compile("[a-z]+|[0-9]+|[^ ]", java.util.regex.Pattern.DOTALL).matcher(text);
            while (m.find()) {
                all.add(new Thing(m.group(), m.start()));
            }
        }

        boolean more() {
            return next < all.size();
        }

        int place() {
            return more() ? all.get(next).at : length;
        }

        Thing take() throws Wrong {
            if (!more()) {
                throw new Wrong(length);
            }
            return all.get(next++);
        }

        boolean sign(String s) {
            if (more() && all.get(next).text.equals(s)) {
                next++;
                return true;
            }
            return false;
        }

        int number(int least, int most) throws Wrong {
            Thing t = take();
            if (!t.text.matches("[0-9]{1,4}") || Integer.parseInt(t.text) < least || Integer.parseInt(t.text) > most) {
                throw new Wrong(t.at);
            }
            return Integer.parseInt(t.text);
        }
    }

    int machine() {
        String text = new String(tape, StandardCharsets.ISO_8859_1);
        tape = new byte[0];
        World draft = now.copy();
        try {
            readAll(new Things(text), draft);
            fault = NONE;
        } catch (Wrong w) {
            fault = w.at;
            throw new IllegalArgumentException();
        }
        if (now.texts == 12) {
            throw new UnsupportedOperationException();
        }
        now = draft;
        return ++now.texts;
    }

    private static void readAll(Things things, World draft) throws Wrong {
        if (!things.more()) {
            return;
        }
        int lines = 0;
        do {
            if (++lines > 14) {
                throw new Wrong(things.place());
            }
            readLine(things, draft);
        } while (things.sign(";"));
        if (things.more()) {
            throw new Wrong(things.place());
        }
    }

    private static void readLine(Things things, World draft) throws Wrong {
        Thing first = things.take();
        switch (first.text) {
            case "wide", "tries", "depth", "buffer", "need", "up", "down", "heal" -> {
                if (first.text.equals("wide") && !draft.threads.isEmpty()) {
                    throw new Wrong(first.at);
                }
                int[] bounds = BOUNDS[TERMS.indexOf(first.text)];
                draft.terms.put(first.text, things.number(bounds[0], bounds[1]));
            }
            case "trust" -> {
                int n = things.number(0, 15);
                draft.locks.forEach(l -> l.trust = n);
            }
            case "word" -> {
                int w = things.number(0, 31);
                draft.words[w] = things.number(0, 9999);
                draft.told[w] = draft.words[w];
            }
            case "older" -> draft.terms.put("older", 1);
            case "asker" -> draft.terms.put("older", 0);
            case "lock" -> {
                Lock lock = draft.locks.get(things.number(0, 3));
                Thing at = things.take();
                if (!at.text.equals("at")) {
                    throw new Wrong(at.at);
                }
                int place = things.place();
                int w = things.number(0, 31);
                if (draft.locks.stream().anyMatch(l -> l != lock && l.word == w)) {
                    throw new Wrong(place);
                }
                lock.word = w;
            }
            case "thread" -> {
                if (draft.threads.size() == 4) {
                    throw new Wrong(first.at);
                }
                Th th = new Th();
                do {
                    if (th.program.size() == 24) {
                        throw new Wrong(things.place());
                    }
                    Thing kind = things.take();
                    int[] most = {3, 3, 31, 31, 999, 999, 9};
                    int k = KINDS.indexOf(kind.text);
                    if (k < 0) {
                        throw new Wrong(kind.at);
                    }
                    th.program.add(new Deed(kind.text, k == 7 ? 0 : things.number(k == 6 ? 1 : 0, most[k])));
                } while (things.sign(","));
                draft.threads.add(th);
            }
            default -> throw new Wrong(first.at);
        }
    }

    int fault() {
        return fault;
    }

    private Th th(int t) {
        if (t < 0 || t >= now.threads.size()) {
            throw new IndexOutOfBoundsException();
        }
        return now.threads.get(t);
    }

    private static void need(boolean such) {
        if (!such) {
            throw new NoSuchElementException();
        }
    }

    private static int bits(Iterable<Integer> set) {
        int bits = 0;
        for (int k : set) {
            bits |= 1 << k;
        }
        return bits;
    }

    int thread(int t, int what) {
        Th th = th(t);
        need(what >= 0 && what <= 9);
        return new int[] {th.at, th.sum, th.guess != null ? 1 : 0, th.done() ? 1 : 0, th.tried, th.kept,
            th.fell.values().stream().mapToInt(n -> n).sum(), th.guess == null ? 0 : th.guess.leftOut.size(),
            th.program.size(), th.gone}[what];
    }

    int leftOut(int t, int k) {
        Guess g = th(t).guess;
        return g == null || k < 0 || k >= g.leftOut.size() ? NONE : g.leftOut.get(k);
    }

    int blocks(int t, int what) {
        Guess g = th(t).guess;
        need(what == 0 || what == 1);
        return g == null ? 0 : bits(what == 0 ? g.reads : g.writes);
    }

    int fell(int t, int why) {
        List<Th> these = t == NONE ? now.threads : List.of(th(t));
        need(why >= 0 && why <= 4);
        return these.stream().mapToInt(th -> th.fell.getOrDefault(why, 0)).sum();
    }

    private static void wordIs(int w) {
        if (w < 0 || w > 31) {
            throw new IndexOutOfBoundsException();
        }
    }

    int word(int w) {
        wordIs(w);
        return now.words[w];
    }

    int sees(int t, int w) {
        th(t);
        wordIs(w);
        return now.sees(t, w);
    }

    int lock(int l, int what) {
        if (l < 0 || l > 3) {
            throw new IndexOutOfBoundsException();
        }
        need(what >= 0 && what <= 5);
        Lock k = now.locks.get(l);
        int left = (int) now.threads.stream().filter(t -> t.guess != null && t.guess.leftOut.contains(l)).count();
        return new int[] {k.word, now.words[k.word], k.trust, k.taken, left, k.keptFirst}[what];
    }

    int term(int what) {
        need(what >= 0 && what <= 8);
        return now.is(TERMS.get(what));
    }

    int deed(int t, int place, int what) {
        Th th = th(t);
        need(what == 0 || what == 1);
        if (place < 0 || place >= th.program.size()) {
            return NONE;
        }
        Deed d = th.program.get(place);
        return what == 0 ? KINDS.indexOf(d.kind) : d.number;
    }

    int step(int t) {
        if (th(t).done() || now.tick == 99999) {
            throw new IllegalStateException();
        }
        return now.step(t);
    }

    int run(int n) {
        return go(n, false);
    }

    int chance(int n) {
        return go(n, true);
    }

    private int go(int n, boolean draws) {
        if (n < 1 || n > 100) {
            throw new IllegalArgumentException();
        }
        int k = 0;
        for (; k < n && !now.going().isEmpty() && now.tick < 99999; k++) {
            now.step(draws ? now.byDraw() : now.byTurn());
        }
        return k;
    }

    int poke(int w, int value) {
        wordIs(w);
        if (value < 0 || value > 9999) {
            throw new IllegalArgumentException();
        }
        int was = now.words[w];
        now.writes(NONE, w, value);
        return was;
    }

    int tune(int what, int n) {
        need(what >= 1 && what <= 8);
        if (n < BOUNDS[what][0] || n > BOUNDS[what][1]) {
            throw new IllegalArgumentException();
        }
        return now.terms.put(TERMS.get(what), n);
    }

    int seed(int n) {
        int was = now.seed;
        now.seed = n;
        return was;
    }

    int due(int t) {
        th(t);
        return now.ahead(t, now.is("need"));
    }

    int quickest(int what) {
        need(what == 0 || what == 1);
        TreeMap<Integer, Integer> leastByTicks = new TreeMap<>();
        for (int need = 16; need >= 0; need--) {
            leastByTicks.put(now.ahead(NONE, need), need);
        }
        leastByTicks.remove(NONE);
        if (leastByTicks.isEmpty()) {
            return NONE;
        }
        return what == 0 ? leastByTicks.firstEntry().getValue() : leastByTicks.firstKey();
    }

    int plain() {
        return now.ahead(NONE, 16);
    }

    private TreeSet<Integer> blocksOf(Th th, List<String> kinds) {
        TreeSet<Integer> found = new TreeSet<>();
        for (Deed d : th.program) {
            if (kinds.contains(d.kind)) {
                boolean lock = d.kind.equals("take") || d.kind.equals("drop");
                found.add(now.block(lock ? now.locks.get(d.number).word : d.number));
            }
        }
        return found;
    }

    int touches(int t, int what) {
        Th th = th(t);
        need(what == 0 || what == 1);
        return bits(blocksOf(th, List.of(what == 0 ? "get" : "put", "take", "drop")));
    }

    int rivals(int t, int o) {
        Th a = th(t);
        Th b = th(o);
        if (t == o) {
            throw new IllegalArgumentException();
        }
        TreeSet<Integer> both = new TreeSet<>();
        for (int block = 0; block < 32; block++) {
            boolean aPuts = blocksOf(a, List.of("put")).contains(block);
            boolean bPuts = blocksOf(b, List.of("put")).contains(block);
            boolean aGets = blocksOf(a, List.of("get")).contains(block);
            boolean bGets = blocksOf(b, List.of("get")).contains(block);
            if (aPuts && (bPuts || bGets) || bPuts && (aPuts || aGets)) {
                both.add(block);
            }
        }
        return bits(both);
    }

    private static void hold(TreeSet<Integer> held, Deed d) {
        if (d.kind.equals("take")) {
            held.add(d.number);
        } else if (d.kind.equals("drop")) {
            held.remove(d.number);
        }
    }

    int nest(int t) {
        TreeSet<Integer> held = new TreeSet<>();
        int most = 0;
        for (Deed d : th(t).program) {
            hold(held, d);
            most = Math.max(most, held.size());
        }
        return most;
    }

    private static List<List<Deed>> partsOf(Th th) {
        List<List<Deed>> parts = new ArrayList<>();
        TreeSet<Integer> held = new TreeSet<>();
        boolean open = false;
        for (Deed d : th.program) {
            if (!open) {
                parts.add(new ArrayList<>());
            }
            parts.get(parts.size() - 1).add(d);
            hold(held, d);
            open = !held.isEmpty();
        }
        return parts;
    }

    int parts(int t) {
        return partsOf(th(t)).size();
    }

    int serial(int k) {
        List<List<List<Deed>>> parts = now.threads.stream().map(Model::partsOf).toList();
        int all = parts.stream().mapToInt(List::size).sum();
        if (!now.going().isEmpty() || all > 10) {
            return NONE;
        }
        List<Integer> order = firstOrder(parts, new ArrayList<>(), all);
        return order == null || k < 0 || k >= order.size() ? NONE : order.get(k);
    }

    private List<Integer> firstOrder(List<List<List<Deed>>> parts, List<Integer> order, int all) {
        if (order.size() == all) {
            return comesOut(parts, order) ? order : null;
        }
        for (int t = 0; t < parts.size(); t++) {
            int thread = t;
            if (order.stream().filter(o -> o == thread).count() < parts.get(t).size()) {
                List<Integer> longer = new ArrayList<>(order);
                longer.add(t);
                List<Integer> found = firstOrder(parts, longer, all);
                if (found != null) {
                    return found;
                }
            }
        }
        return null;
    }

    private boolean comesOut(List<List<List<Deed>>> parts, List<Integer> order) {
        int[] words = now.told.clone();
        int[] sums = new int[4];
        int[] next = new int[4];
        List<Output> outputs = new ArrayList<>();
        for (int t : order) {
            for (Deed d : parts.get(t).get(next[t]++)) {
                int n = d.number;
                switch (d.kind) {
                    case "take" -> {
                        if (words[now.locks.get(n).word] != 0) {
                            return false;
                        }
                        words[now.locks.get(n).word] = 1;
                    }
                    case "drop" -> words[now.locks.get(n).word] = 0;
                    case "get" -> sums[t] = words[n];
                    case "put" -> words[n] = sums[t];
                    case "set" -> sums[t] = n;
                    case "plus" -> sums[t] = (sums[t] + n) % 10000;
                    case "out" -> outputs.add(new Output(t, sums[t]));
                    default -> { }
                }
            }
        }
        return Arrays.equals(words, now.words)
                && outputs.subList(0, Math.min(20, outputs.size())).equals(now.outputs);
    }

    int output(int k, int what) {
        need(what == 0 || what == 1);
        if (k < 0 || k >= now.outputs.size()) {
            return NONE;
        }
        return what == 0 ? now.outputs.get(k).thread : now.outputs.get(k).sum;
    }

    int log(int ago, int what) {
        need(what >= 0 && what <= 3);
        if (ago < 0 || ago >= now.log.size()) {
            return NONE;
        }
        Row r = new ArrayList<>(now.log).get(ago);
        return new int[] {r.tick, r.thread, r.what, r.more}[what];
    }

    int text(int t) {
        List<String> deeds = new ArrayList<>();
        for (Deed d : th(t).program) {
            deeds.add(d.kind + " " + (d.kind.equals("out") ? "" : d.number));
        }
        written = "thread " + String.join(", ", deeds);
        return written.length();
    }

    int octet(int k) {
        return k < 0 || k >= written.length() ? NONE : written.charAt(k);
    }

    int image() {
        image = now.copy();
        return 0;
    }

    boolean back() {
        if (image == null) {
            return false;
        }
        now = image.copy();
        return true;
    }

    int count(int what) {
        List<Integer> done = new ArrayList<>();
        List<Integer> guessing = new ArrayList<>();
        List<Integer> locked = new ArrayList<>();
        for (int k = 0; k < 4; k++) {
            if (k < now.threads.size() && now.threads.get(k).done()) {
                done.add(k);
            }
            if (k < now.threads.size() && now.threads.get(k).guess != null) {
                guessing.add(k);
            }
            if (now.words[now.locks.get(k).word] != 0) {
                locked.add(k);
            }
        }
        int[] all = {now.threads.size(), now.texts, now.tick, bits(done), bits(guessing),
            now.threads.stream().mapToInt(t -> t.kept).sum(), bits(locked), now.outputs.size(), now.log.size(),
            now.latest};
        return what < 0 || what > 9 ? NONE : all[what];
    }
}
