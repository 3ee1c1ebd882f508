import java.util.NoSuchElementException;

/** "Of several exceptions the one told first is thrown; a call that throws changes nothing": every refused call. */
public final class EdgeCallTest {
    private static final Class<IndexOutOfBoundsException> INDEX = IndexOutOfBoundsException.class;
    private static final Class<NoSuchElementException> NONE_SUCH = NoSuchElementException.class;
    private static final Class<IllegalArgumentException> ARGUMENT = IllegalArgumentException.class;
    private static final Class<IllegalStateException> STATE = IllegalStateException.class;
    private static final int[] NO_THREADS = {-1, 3, 4, 32, Integer.MIN_VALUE, Integer.MAX_VALUE};
    private static final int[] NO_WORDS = {-1, 32, Integer.MIN_VALUE, Integer.MAX_VALUE};
    private static final int[] NO_TWO = {-1, 2, Integer.MIN_VALUE, Integer.MAX_VALUE};

    private interface Asked {
        void of(ElidedLocks x);
    }

    public static void main(String[] args) {
        threadsRefused();
        wordsAndLocksRefused();
        whatsRefused();
        numbersRefused();
        stepsRefused();
        firstToldFirst();
        textsRefused();
        answersChangeNothing();
        noneAnswersChangeNothing();
        Desk.finish();
    }

    /** Three THREADS: one GUESSING, one that fell, one DONE; an OUTPUT, a fault, something written, a TAPE. */
    private static Desk amid() {
        Desk d = new Desk("word 3 7; need 0; thread out, take 0, take 1, put 1, drop 1, drop 0;"
                + "thread take 2, get 3, drop 2; thread set 1");
        d.wrongByte("older; x");
        d.steps(0, 1, 1, 0, 0, 0, 2);
        d.x.poke(3, 8);
        d.x.chance(1);
        d.x.seed(77);
        d.x.text(0);
        d.feed("abc");
        return d;
    }

    private static void refused(String name, Class<? extends RuntimeException> due, Asked call) {
        Desk d = amid();
        String before = Picture.of(d.x);
        Desk.throwsDue(name, due, () -> call.of(d.x));
        Desk.due(name + " changes nothing", Picture.of(d.x), before);
        Desk.due(name + " nor fault(), nor the TAPE", d.x.fault() + " " + Picture.tapeLength(d.x), "7 3");
    }

    private static void threadsRefused() {
        for (int t : NO_THREADS) {
            refused("6 THREAD " + t, INDEX, x -> x.thread(t, 0));
            refused("7 THREAD " + t, INDEX, x -> x.leftOut(t, 0));
            refused("8 THREAD " + t, INDEX, x -> x.blocks(t, 0));
            refused("11 THREAD " + t, INDEX, x -> x.sees(t, 0));
            refused("14 THREAD " + t, INDEX, x -> x.deed(t, 0, 0));
            refused("15 THREAD " + t, INDEX, x -> x.step(t));
            refused("21 THREAD " + t, INDEX, x -> x.due(t));
            refused("24 THREAD " + t, INDEX, x -> x.touches(t, 0));
            refused("25 THREAD " + t, INDEX, x -> x.rivals(t, 0));
            refused("25 other THREAD " + t, INDEX, x -> x.rivals(0, t));
            refused("26 THREAD " + t, INDEX, x -> x.nest(t));
            refused("27 THREAD " + t, INDEX, x -> x.parts(t));
            refused("31 THREAD " + t, INDEX, x -> x.text(t));
            if (t != ElidedLocks.NONE) {
                refused("9 THREAD " + t, INDEX, x -> x.fell(t, 0));
            }
        }
        refused("9 THREAD -2", INDEX, x -> x.fell(-2, 0));
    }

    private static void wordsAndLocksRefused() {
        for (int w : NO_WORDS) {
            refused("10 WORD " + w, INDEX, x -> x.word(w));
            refused("11 WORD " + w, INDEX, x -> x.sees(0, w));
            refused("18 WORD " + w, INDEX, x -> x.poke(w, 0));
        }
        for (int l : new int[] {-1, 4, Integer.MIN_VALUE, Integer.MAX_VALUE}) {
            refused("12 LOCK " + l, INDEX, x -> x.lock(l, 0));
        }
    }

    private static void whatsRefused() {
        for (int what : NO_TWO) {
            refused("8 what " + what, NONE_SUCH, x -> x.blocks(0, what));
            refused("14 what " + what, NONE_SUCH, x -> x.deed(0, 0, what));
            refused("22 what " + what, NONE_SUCH, x -> x.quickest(what));
            refused("24 what " + what, NONE_SUCH, x -> x.touches(0, what));
            refused("29 what " + what, NONE_SUCH, x -> x.output(0, what));
        }
        for (int beyond : new int[] {-1, Integer.MIN_VALUE, Integer.MAX_VALUE}) {
            refused("6 what " + beyond, NONE_SUCH, x -> x.thread(0, beyond));
            refused("9 why " + beyond, NONE_SUCH, x -> x.fell(0, beyond));
            refused("9 why " + beyond + " of all", NONE_SUCH, x -> x.fell(-1, beyond));
            refused("12 what " + beyond, NONE_SUCH, x -> x.lock(0, beyond));
            refused("13 what " + beyond, NONE_SUCH, x -> x.term(beyond));
            refused("19 what " + beyond, NONE_SUCH, x -> x.tune(beyond, 1));
            refused("30 what " + beyond, NONE_SUCH, x -> x.log(0, beyond));
        }
        refused("6 what 10", NONE_SUCH, x -> x.thread(0, 10));
        refused("9 why 5", NONE_SUCH, x -> x.fell(0, 5));
        refused("9 why 5 of all", NONE_SUCH, x -> x.fell(-1, 5));
        refused("12 what 6", NONE_SUCH, x -> x.lock(0, 6));
        refused("13 what 9", NONE_SUCH, x -> x.term(9));
        refused("19 what 0", NONE_SUCH, x -> x.tune(0, 1));
        refused("19 what 9", NONE_SUCH, x -> x.tune(9, 1));
        refused("30 what 4", NONE_SUCH, x -> x.log(0, 4));
    }

    private static void numbersRefused() {
        for (int n : new int[] {0, -1, 101, Integer.MIN_VALUE, Integer.MAX_VALUE}) {
            refused("16 n " + n, ARGUMENT, x -> x.run(n));
            refused("17 n " + n, ARGUMENT, x -> x.chance(n));
        }
        for (int value : new int[] {-1, 10000, Integer.MIN_VALUE, Integer.MAX_VALUE}) {
            // WORD 1 lies in a BLOCK that is in WRITES: a refused POKE must not make it fall.
            refused("18 value " + value, ARGUMENT, x -> x.poke(1, value));
        }
        int[] least = {0, 1, 1, 1, 0, 0, 0, 1, 0};
        int[] most = {0, 9, 4, 8, 16, 9, 15, 9, 1};
        for (int k = 1; k <= 8; k++) {
            int what = k;
            refused("19 one below", ARGUMENT, x -> x.tune(what, least[what] - 1));
            refused("19 one beyond", ARGUMENT, x -> x.tune(what, most[what] + 1));
        }
        for (int k = 0; k < 3; k++) {
            int t = k;
            refused("25 both are " + t, ARGUMENT, x -> x.rivals(t, t));
        }
    }

    private static void stepsRefused() {
        refused("15 DONE", STATE, x -> x.step(2));
    }

    private static void firstToldFirst() {
        refused("6 THREAD ahead of what", INDEX, x -> x.thread(3, 10));
        refused("8 THREAD ahead of what", INDEX, x -> x.blocks(3, 2));
        refused("9 THREAD ahead of why", INDEX, x -> x.fell(3, 5));
        refused("11 neither THREAD nor WORD", INDEX, x -> x.sees(3, 32));
        refused("12 LOCK ahead of what", INDEX, x -> x.lock(4, 6));
        refused("14 THREAD ahead of what", INDEX, x -> x.deed(3, 0, 2));
        refused("14 what ahead of no place", NONE_SUCH, x -> x.deed(0, 24, 2));
        refused("18 WORD ahead of value", INDEX, x -> x.poke(32, 10000));
        refused("19 what ahead of n", NONE_SUCH, x -> x.tune(9, 99));
        refused("19 WIDE ahead of n", NONE_SUCH, x -> x.tune(0, 9));
        refused("24 THREAD ahead of what", INDEX, x -> x.touches(3, 2));
        refused("25 no such THREAD ahead of both being one", INDEX, x -> x.rivals(3, 3));
        refused("29 what ahead of no such OUTPUT", NONE_SUCH, x -> x.output(20, 2));
        refused("30 what ahead of no such row", NONE_SUCH, x -> x.log(60, 4));
    }

    private static void textsRefused() {
        Desk d = amid();
        String before = Picture.of(d.x);
        Desk.throwsDue("4 wrong", ARGUMENT, d.x::machine);
        Desk.due("4 changes nothing", Picture.of(d.x), before);
        Desk.due("4 but fault() and the TAPE", d.x.fault() + " " + Picture.tapeLength(d.x), "0 0");
        Desk e = amid();
        e.x.end(0);
        for (int k = 2; k <= 12; k++) {
            e.tell("");
        }
        String full = Picture.of(e.x);
        e.feed("older; need 5; word 1 1; lock 0 at 1; thread out");
        Desk.throwsDue("4 there are 12", UnsupportedOperationException.class, e.x::machine);
        Desk.due("4 changes nothing", Picture.of(e.x), full);
        Desk.due("4 but the TAPE", Picture.tapeLength(e.x), 0);
    }

    private static void unchanged(String name, Asked call) {
        Desk d = amid();
        String before = Picture.of(d.x);
        call.of(d.x);
        Desk.due(name + " changes nothing", Picture.of(d.x), before);
        Desk.due(name + " nor fault(), nor the TAPE", d.x.fault() + " " + Picture.tapeLength(d.x), "7 3");
    }

    private static void answersChangeNothing() {
        unchanged("14", x -> x.deed(0, 0, 0));
        unchanged("21", x -> x.due(0));
        unchanged("21", x -> x.due(1));
        unchanged("22", x -> x.quickest(0));
        unchanged("22", x -> x.quickest(1));
        unchanged("23", ElidedLocks::plain);
        unchanged("24", x -> x.touches(0, 0));
        unchanged("25", x -> x.rivals(0, 1));
        unchanged("26", x -> x.nest(0));
        unchanged("27", x -> x.parts(0));
        unchanged("28", x -> x.serial(0));
        unchanged("31 the same once more", x -> x.text(0));
        unchanged("33", ElidedLocks::image);
    }

    private static void noneAnswersChangeNothing() {
        unchanged("3 end(-1)", x -> Desk.due("3", x.end(-1), false));
        unchanged("3 end(4) of 3", x -> Desk.due("3", x.end(4), false));
        unchanged("7 no k-th", x -> Desk.due("7", x.leftOut(0, 2) + " " + x.leftOut(0, -1), "-1 -1"));
        unchanged("14 no place", x -> Desk.due("14", x.deed(0, 6, 0) + " " + x.deed(0, -1, 0), "-1 -1"));
        unchanged("28 none", x -> Desk.due("28", x.serial(0), -1));
        unchanged("29 none", x -> Desk.due("29", x.output(1, 0) + " " + x.output(-1, 0), "-1 -1"));
        unchanged("30 none", x -> Desk.due("30", x.log(60, 0) + " " + x.log(-1, 0), "-1 -1"));
        unchanged("32 none", x -> Desk.due("32", x.octet(400) + " " + x.octet(-1), "-1 -1"));
        unchanged("34 none", x -> Desk.due("34", x.back(), false));
        unchanged("35 another what", x -> Desk.due("35", x.count(10) + " " + x.count(-1), "-1 -1"));
    }
}
