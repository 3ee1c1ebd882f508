import java.nio.charset.StandardCharsets;
import java.util.ArrayList;
import java.util.Arrays;
import java.util.List;
import java.util.Random;

/** Random runs of up to 512 calls, each answer compared with the Model's. */
public final class ModelTest {
    private static final int RUNS = 4000;
    private static final String[] NUMBERS = {"0", "1", "2", "3", "4", "7", "8", "9", "15", "16", "17", "31", "32", "999",
        "1000", "9999", "10000", "0007", "00001", ""};
    private final Random random;
    private final ElidedLocks program = new ElidedLocks();
    private final Model model = new Model();
    private final List<String> calls = new ArrayList<>();
    private boolean wrong;

    private ModelTest(long seed) {
        random = new Random(seed);
    }

    private interface Call {
        long answer();
    }

    private static String answerOf(Call call) {
        try {
            return Long.toString(call.answer());
        } catch (RuntimeException e) {
            return e.getClass().getSimpleName();
        }
    }

    private void compare(String name, Call mine, Call due) {
        if (wrong) {
            return;
        }
        String got = answerOf(mine);
        String want = answerOf(due);
        calls.add(name + " = " + want);
        if (!got.equals(want)) {
            wrong = true;
            calls.forEach(System.out::println);
            System.out.println(name + " answered " + got + ", due is " + want);
        }
    }

    private int below(int n) {
        return random.nextInt(n);
    }

    private int small(int least, int most) {
        return least + below(most - least + 1);
    }

    /** Mostly the number itself, now and then any. */
    private int wild(int n) {
        int draw = below(200);
        return draw == 0 ? random.nextInt() : draw == 1 ? Integer.MIN_VALUE : draw == 2 ? Integer.MAX_VALUE : n;
    }

    private String number(int most) {
        return below(60) == 0 ? NUMBERS[below(NUMBERS.length)] : Integer.toString(below(most + 1));
    }

    private String deed(int locks, int words) {
        switch (below(9)) {
            case 0: return "take " + number(locks);
            case 1: return "drop " + number(locks);
            case 2: return "get " + number(words);
            case 3: return "put " + number(words);
            case 4: return "set " + number(99);
            case 5: return "plus " + number(999);
            case 6: return "work " + number(3);
            case 7: return "out";
            default: return below(3) == 0 ? "get " + (16 + 4 * below(4)) : "put " + number(words);
        }
    }

    private void part(List<String> deeds, int depth, int locks, int words) {
        int lock = below(locks + 1);
        deeds.add("take " + lock);
        int inside = below(4);
        for (int k = 0; k < inside; k++) {
            if (depth < 3 && below(4) == 0) {
                part(deeds, depth + 1, locks, words);
            } else {
                deeds.add(deed(locks, words).replaceAll("take|drop", below(2) == 0 ? "get" : "put"));
            }
        }
        if (below(12) > 0) {
            deeds.add("drop " + lock);
        }
    }

    private String thread() {
        int locks = below(4);
        int words = 1 + below(below(3) == 0 ? 31 : 7);
        int most = below(12) == 0 ? 26 : 1 + below(8);
        List<String> deeds = new ArrayList<>();
        while (deeds.size() < most) {
            if (below(2) == 0) {
                part(deeds, 0, locks, words);
            } else {
                deeds.add(deed(locks, words));
            }
        }
        return "thread " + String.join(below(3) == 0 ? "," : ", ", deeds);
    }

    private String line() {
        String[] terms = {"wide", "tries", "depth", "buffer", "need", "up", "down", "heal", "trust"};
        int[] most = {8, 9, 4, 8, 16, 9, 15, 9, 15};
        switch (below(8)) {
            case 0:
            case 1: int k = below(9); return terms[k] + " " + number(most[k]);
            case 2: return "word " + number(31) + " " + number(below(2) == 0 ? 1 : 9999);
            case 3: return below(2) == 0 ? "older" : "asker";
            case 4: return "lock " + number(3) + (below(4) == 0 ? "at" : " at ") + number(31);
            default: return thread();
        }
    }

    private String story() {
        int lines = below(10) == 0 ? 12 + below(5) : 1 + below(4);
        List<String> all = new ArrayList<>();
        if (below(3) > 0 && model.now.threads.isEmpty()) {
            all.add("wide " + (1 + below(4)));
        }
        for (int k = 0; k < lines; k++) {
            all.add(lines > 10 ? "need " + below(17) : line());
        }
        StringBuilder text = new StringBuilder(String.join(below(3) == 0 ? ";" : "; ", all));
        int spoiled = below(4) == 0 ? 1 + below(2) : 0;
        String signs = " ;,0a9zT\t\u00ff\u0000/:`{";
        for (int k = 0; k < spoiled && text.length() > 0; k++) {
            int at = below(text.length());
            switch (below(4)) {
                case 0: text.deleteCharAt(at); break;
                case 1: text.insert(at, signs.charAt(below(signs.length()))); break;
                case 2: text.setCharAt(at, signs.charAt(below(signs.length()))); break;
                default: text.setLength(at); break;
            }
        }
        return below(8) == 0 ? " " + text + "  " : text.toString();
    }

    /** A right text of THREADS that get in each other's way. */
    private String contest() {
        List<String> all = new ArrayList<>();
        all.add("wide " + small(1, 3));
        all.add("need " + small(0, 8));
        all.add("down " + small(0, 4));
        all.add("tries " + small(1, 5));
        all.add("depth " + small(1, 4));
        all.add("buffer " + small(1, 4));
        all.add("trust " + small(4, 15));
        all.add(below(2) == 0 ? "older" : "asker");
        int threads = small(2, 4);
        int parts = small(1, 3);
        for (int t = 0; t < threads; t++) {
            List<String> deeds = new ArrayList<>();
            for (int k = 0; k < parts; k++) {
                contend(deeds);
            }
            all.add("thread " + String.join(",", deeds.subList(0, Math.min(24, deeds.size()))));
        }
        return String.join(";", all);
    }

    private void contend(List<String> deeds) {
        int outer = below(3);
        int inner = below(4);
        deeds.add("take " + outer);
        deeds.add(below(2) == 0 ? "get " + below(5) : "set " + below(9));
        deeds.add("plus " + below(9));
        if (below(3) == 0) {
            deeds.add("take " + inner);
            deeds.add("put " + below(5));
            deeds.add(below(3) == 0 ? "work " + small(1, 3) : "get " + below(7));
            deeds.add("drop " + (below(8) == 0 ? outer : inner));
        }
        deeds.add(below(10) == 0 ? "out" : "put " + below(5));
        if (below(15) > 0) {
            deeds.add("drop " + outer);
        }
        if (below(4) == 0) {
            deeds.add("out");
        }
    }

    private void feed(byte[] bytes, int from) {
        int[] n = new int[5];
        for (int k = 0; k < 20; k++) {
            int b = from + k < bytes.length ? bytes[from + k] & 255 : 0;
            n[k / 4] = n[k / 4] << 8 | b;
        }
        compare("feed(" + Arrays.toString(n) + ")", () -> program.feed(n[0], n[1], n[2], n[3], n[4]),
                () -> model.feed(n[0], n[1], n[2], n[3], n[4]));
    }

    private void tell(String text) {
        byte[] bytes = text.getBytes(StandardCharsets.ISO_8859_1);
        for (int from = 0; from < bytes.length; from += 20) {
            feed(bytes, from);
        }
        end(Math.min(bytes.length, 400));
        machine("machine() '" + text + "'");
    }

    private void machine(String name) {
        compare(name, program::machine, model::machine);
        compare("fault()", program::fault, model::fault);
    }

    private void end(int n) {
        compare("end(" + n + ")", () -> program.end(n) ? 1 : 0, () -> model.end(n) ? 1 : 0);
    }

    private void go() {
        int t = below(6) > 0 && model.count(0) > 0 ? below(model.count(0)) : small(-2, 4);
        int w = below(20) == 0 ? small(-1, 32) : below(32);
        int n = below(30) == 0 ? small(-1, 101) : below(8) == 0 ? small(20, 60) : small(1, 5);
        switch (below(16)) {
            case 0:
            case 1:
            case 2:
            case 3:
            case 4:
            case 5:
            case 6: compare("step(" + t + ")", () -> program.step(t), () -> model.step(t)); break;
            case 7:
            case 8:
            case 9: compare("run(" + n + ")", () -> program.run(n), () -> model.run(n)); break;
            case 10:
            case 11: compare("chance(" + n + ")", () -> program.chance(n), () -> model.chance(n)); break;
            case 12: poke(w); break;
            case 13: tune(); break;
            case 14: odd(); break;
            default: leaveAndReturn(); break;
        }
    }

    private void poke(int w) {
        int v = below(10) == 0 ? small(-1, 0) + below(2) * 10000 : below(3);
        compare("poke(" + w + ", " + v + ")", () -> program.poke(w, v), () -> model.poke(w, v));
    }

    private void tune() {
        int what = small(0, 9);
        int n = below(8) == 0 ? small(-1, 17) : small(0, 4);
        compare("tune(" + what + ", " + n + ")", () -> program.tune(what, n), () -> model.tune(what, n));
    }

    private void leaveAndReturn() {
        if (below(2) == 0) {
            compare("back()", () -> program.back() ? 1 : 0, () -> model.back() ? 1 : 0);
        } else {
            compare("image()", this::keepImage, model::image);
        }
    }

    private long keepImage() {
        program.image();
        return 0;
    }

    private void odd() {
        int n = below(2) == 0 ? small(-1, 30) : random.nextInt();
        switch (below(3)) {
            case 0: compare("seed(" + n + ")", () -> program.seed(n), () -> model.seed(n)); break;
            case 1: feed(new byte[0], 0); break;
            default: end(n); break;
        }
    }

    private void ask() {
        int t = wild(below(5) > 0 && model.count(0) > 0 ? below(model.count(0)) : small(-2, 4));
        int o = wild(small(-1, 4));
        int k = wild(small(-1, 8));
        int what = wild(small(-1, 10));
        int two = wild(below(10) == 0 ? small(-1, 2) : below(2));
        int w = wild(below(20) == 0 ? small(-1, 32) : below(32));
        switch (below(23)) {
            case 0: compare("thread(" + t + ", " + what + ")", () -> program.thread(t, what), () -> model.thread(t, what)); break;
            case 1: compare("leftOut(" + t + ", " + k + ")", () -> program.leftOut(t, k), () -> model.leftOut(t, k)); break;
            case 2: compare("blocks(" + t + ", " + two + ")", () -> program.blocks(t, two), () -> model.blocks(t, two)); break;
            case 3: compare("fell(" + t + ", " + k + ")", () -> program.fell(t, k), () -> model.fell(t, k)); break;
            case 4: compare("word(" + w + ")", () -> program.word(w), () -> model.word(w)); break;
            case 5: compare("sees(" + t + ", " + w + ")", () -> program.sees(t, w), () -> model.sees(t, w)); break;
            case 6: compare("lock(" + o + ", " + k + ")", () -> program.lock(o, k), () -> model.lock(o, k)); break;
            case 7: compare("term(" + what + ")", () -> program.term(what), () -> model.term(what)); break;
            case 8: compare("deed(" + t + ", " + k + ", " + two + ")", () -> program.deed(t, k, two), () -> model.deed(t, k, two)); break;
            case 9: compare("due(" + t + ")", () -> program.due(t), () -> model.due(t)); break;
            case 10: compare("quickest(" + two + ")", () -> program.quickest(two), () -> model.quickest(two)); break;
            case 11: compare("plain()", program::plain, model::plain); break;
            case 12: compare("touches(" + t + ", " + two + ")", () -> program.touches(t, two), () -> model.touches(t, two)); break;
            case 13: compare("rivals(" + t + ", " + o + ")", () -> program.rivals(t, o), () -> model.rivals(t, o)); break;
            case 14: compare("nest(" + t + ")", () -> program.nest(t), () -> model.nest(t)); break;
            case 15: compare("parts(" + t + ")", () -> program.parts(t), () -> model.parts(t)); break;
            case 16: serial(); break;
            case 17: compare("output(" + k + ", " + two + ")", () -> program.output(k, two), () -> model.output(k, two)); break;
            case 18: compare("log(" + k * 9 + ", " + (o + 1) + ")", () -> program.log(k * 9, o + 1), () -> model.log(k * 9, o + 1)); break;
            case 19: compare("log(" + k + ", " + (o & 3) + ")", () -> program.log(k, o & 3), () -> model.log(k, o & 3)); break;
            case 20: compare("text(" + t + ")", () -> program.text(t), () -> model.text(t)); break;
            case 21: compare("octet(" + k * 11 + ")", () -> program.octet(k * 11), () -> model.octet(k * 11)); break;
            default: compare("count(" + what + ")", () -> program.count(what), () -> model.count(what)); break;
        }
    }

    private void serial() {
        int parts = 0;
        for (int t = 0; t < model.count(0); t++) {
            parts += model.parts(t);
        }
        // The Model tries every ORDER to its end: one search with many PARTS is enough for a run.
        int most = parts > 8 ? 1 : 2 + below(parts + 2);
        for (int k = -1; k < most; k++) {
            int place = parts > 8 ? below(parts) : k;
            compare("serial(" + place + ")", () -> program.serial(place), () -> model.serial(place));
        }
    }

    private boolean isRight() {
        int most = 60 + below(450);
        boolean contest = below(4) > 0;
        tell(contest ? contest() : story());
        if (contest) {
            compare("image()", this::keepImage, model::image);
        }
        while (calls.size() < most && !wrong) {
            int draw = below(100);
            if (contest && model.now.going().isEmpty()) {
                serial();
                compare("back()", () -> program.back() ? 1 : 0, () -> model.back() ? 1 : 0);
            }
            if (draw < (contest ? 1 : 4)) {
                tell(story());
            } else if (draw < 45) {
                go();
            } else {
                ask();
            }
        }
        return !wrong;
    }

    public static void main(String[] args) {
        long first = args.length > 0 ? Long.parseLong(args[0]) : 1;
        int runs = args.length > 1 ? Integer.parseInt(args[1]) : RUNS;
        for (long seed = first; seed < first + runs; seed++) {
            if (!new ModelTest(seed).isRight()) {
                System.out.println("seed " + seed);
                System.exit(1);
            }
        }
    }
}
