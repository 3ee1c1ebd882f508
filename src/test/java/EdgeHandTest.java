/** By hand, by draws, the last TICK, THE IMAGE at their bounds: promises 15 to 20, 33 to 35, sentence by sentence. */
public final class EdgeHandTest {
    public static void main(String[] args) {
        pokedValues();
        pokedBlocks();
        pokedAsItWas();
        tuned();
        tunedAtOnce();
        seeds();
        drawsOfAny();
        drawsOfOne();
        noDraws();
        lastTick();
        lastTickAhead();
        lastTickOfAll();
        lastTickGoneBackFrom();
        mostCalls();
        noImage();
        imagesTwice();
        imageLeavesOut();
        imageOfAll();
        imageOfAnotherGuess();
        imageOfTheOlder();
        threadsGoneBackFrom();
        counts();
        Desk.finish();
    }

    private static void pokedValues() {
        Desk d = new Desk();
        Desk.due("18 the least, the most", d.x.poke(0, 9999) + " " + d.x.poke(0, 0) + " " + d.x.poke(0, 9998), "0 9999 0");
        Desk.due("18 the first, the last WORD", d.x.word(0) + " " + d.x.poke(31, 9999) + " " + d.x.word(31), "9998 0 9999");
        for (int value : new int[] {-1, 10000, Integer.MIN_VALUE, Integer.MAX_VALUE}) {
            Desk.throwsDue("18 value " + value, IllegalArgumentException.class, () -> d.x.poke(0, value));
            for (int word : new int[] {-1, 32, Integer.MIN_VALUE, Integer.MAX_VALUE}) {
                Desk.throwsDue("18 WORD " + word + " first", IndexOutOfBoundsException.class, () -> d.x.poke(word, value));
            }
        }
        Desk.due("18 nothing changed", d.x.word(0) + " " + d.x.word(31), "9998 9999");
    }

    private static void pokedBlocks() {
        for (int wide = 1; wide <= 8; wide++) {
            for (String deed : new String[] {"get ", "put "}) {
                Desk d = new Desk("wide " + wide + "; need 0; thread take 3, " + deed + wide + ", drop 3");
                d.steps(0, 0);
                d.x.poke(wide - 1, 1);
                Desk.due("18 the WORD ahead of the BLOCK", d.x.count(4), 1);
                d.x.poke(2 * wide, 1);
                Desk.due("18 the WORD behind the BLOCK", d.x.count(4), 1);
                d.x.image();
                d.x.poke(wide, 1);
                Desk.due("18 its first WORD", d.x.count(4) + " " + d.x.fell(0, 0), "0 1");
                d.x.back();
                d.x.poke(2 * wide - 1, 1);
                Desk.due("18 its last WORD", d.x.count(4) + " " + d.x.fell(0, 0), "0 1");
            }
        }
        Desk d = new Desk("need 0; thread take 3, get 1, drop 3");
        d.steps(0);
        d.x.poke(28, 0);
        Desk.due("18 the LOCK's own WORD", d.x.count(4), 0);
    }

    private static void pokedAsItWas() {
        Desk d = new Desk("word 1 5; need 0; thread take 0, plus 7, put 1, work 9, drop 0");
        d.steps(0, 0, 0);
        Desk.due("18 the WORD, not the VALUE", d.x.poke(1, 5), 5);
        Desk.due("18 a WRITE of what it was, too", d.x.count(4) + " " + d.x.fell(0, 0) + " " + d.x.word(1), "0 1 5");
        Desk.due("18 no TICK, no STEP", d.x.count(2) + " " + d.x.count(9), "3 0");
        Desk.due("30 in the TICK that is", d.row(0), "3 0 2 0");
        d = new Desk("thread out");
        d.x.run(1);
        Desk.due("18 POKED is not TOLD", d.serial() + " " + d.x.poke(1, 2) + d.serial(), "0 0");
    }

    private static void tuned() {
        int[] least = {1, 1, 1, 1, 0, 0, 0, 1, 0};
        int[] most = {8, 9, 4, 8, 16, 9, 15, 9, 1};
        int[] first = {2, 3, 2, 4, 8, 1, 4, 2, 0};
        for (int what = 1; what <= 8; what++) {
            Desk d = new Desk();
            int w = what;
            Desk.due("19 the first", d.x.tune(what, least[what]), first[what]);
            Desk.due("19 the least", d.x.term(what) + " " + d.x.tune(what, most[what]), least[what] + " " + least[what]);
            Desk.due("19 the most", d.x.term(what) + " " + d.x.tune(what, most[what]), most[what] + " " + most[what]);
            for (int n : new int[] {least[what] - 1, most[what] + 1, Integer.MIN_VALUE, Integer.MAX_VALUE}) {
                Desk.throwsDue("19 tune(" + what + ", " + n + ")", IllegalArgumentException.class, () -> d.x.tune(w, n));
                Desk.due("19 it stays", d.x.term(what), most[what]);
            }
            for (int other = 0; other <= 8; other++) {
                Desk.due("19 the others stay", d.x.term(other), other == what ? most[what] : first[other]);
            }
        }
        Desk d = new Desk();
        for (int what : new int[] {0, -1, 9, Integer.MIN_VALUE, Integer.MAX_VALUE}) {
            Desk.throwsDue("19 TERM " + what, java.util.NoSuchElementException.class, () -> d.x.tune(what, 1));
            Desk.throwsDue("19 TERM " + what + " first", java.util.NoSuchElementException.class, () -> d.x.tune(what, 99));
        }
        Desk.due("19 WIDE stays", d.x.term(0), 2);
    }

    private static void tunedAtOnce() {
        Desk d = new Desk("thread take 0, get 1, drop 0, take 0, drop 0");
        d.x.tune(4, 9);
        Desk.due("19 NEED", d.steps(0) + " " + d.x.thread(0, 2), "1 0");
        d.steps(0, 0);
        d.x.tune(4, 8);
        d.x.tune(5, 9);
        Desk.due("19 UP", d.steps(0, 0) + " " + d.x.lock(0, 2), "1 1 15");
        d = new Desk("thread take 0, get 1, drop 0");
        d.steps(0);
        d.x.tune(6, 7);
        d.x.poke(16, 0);
        Desk.due("19 DOWN", d.x.lock(0, 2), 1);
        d = new Desk("need 16; thread take 0, drop 0");
        d.x.tune(7, 1);
        d.steps(0);
        Desk.due("19 HEAL", d.x.lock(0, 2), 9);
    }

    private static void seeds() {
        ElidedLocks x = new ElidedLocks();
        int was = 1;
        for (int seed : new int[] {0, -1, Integer.MIN_VALUE, Integer.MAX_VALUE, 12345, 1}) {
            Desk.due("20 what it was", x.seed(seed), was);
            was = seed;
        }
        Desk.due("20 told twice", x.seed(1), 1);
    }

    /** The DRAW of the document, in long numbers: {the seed behind it, the number}. */
    private static int[] draw(int seed, int below) {
        long wrapped = (seed * 1103515245L + 12345L) & 0xffffffffL;
        long bits = wrapped / 65536 % 32768;
        return new int[] {(int) wrapped, (int) (bits % below)};
    }

    private static void drawsOfAny() {
        int[] starts = {0, 1, 2, -1, Integer.MIN_VALUE, Integer.MAX_VALUE, 65536, -65536, 0x7fff0000, 99};
        for (int start : starts) {
            for (int threads = 1; threads <= 4; threads++) {
                Desk d = new Desk("thread work 9" + "; thread work 9".repeat(threads - 1));
                d.x.seed(start);
                int seed = start;
                for (int k = 0; k < 8; k++) {
                    int[] drawn = draw(seed, threads);
                    seed = drawn[0];
                    Desk.due("17 one TICK", d.x.chance(1), 1);
                    Desk.due("17 the THREAD drawn of " + threads, d.x.count(9), drawn[1]);
                }
                Desk.due("20 the seed behind it", d.x.seed(1), seed);
            }
        }
        // Bit 31 is none of the bits: this seed's next one has it, and 30 to 16 are 0.
        Desk d = new Desk("thread work 9; thread work 9; thread work 9");
        int inverse = -289805467;
        Desk.due("the inverse wraps", inverse * 1103515245, 1);
        d.x.seed((0x80000000 - 12345) * inverse);
        d.x.chance(1);
        Desk.due("17 bits 16 to 30", d.x.count(9) + " " + d.x.seed(1), "0 " + 0x80000000);
        d.x.seed((0x7fffffff - 12345) * inverse);
        d.x.chance(1);
        Desk.due("17 all of them: 32767", d.x.count(9) + " " + d.x.seed(1), 32767 % 3 + " " + 0x7fffffff);
        d.x.seed((0x0000ffff - 12345) * inverse);
        d.x.chance(1);
        Desk.due("17 not bits 0 to 15", d.x.count(9), 0);
        d.x.seed((0x00010000 - 12345) * inverse);
        d.x.chance(1);
        Desk.due("17 bit 16", d.x.count(9), 1);
    }

    private static void drawsOfOne() {
        Desk d = new Desk("thread out; thread out,out; thread out; thread out,out,out");
        d.steps(0, 2);
        int seed = 1;
        int[] left = {0, 2, 0, 3};
        for (int k = 0; k < 5; k++) {
            int going = (left[1] > 0 ? 1 : 0) + (left[3] > 0 ? 1 : 0);
            int[] drawn = draw(seed, going);
            seed = drawn[0];
            int t = left[1] > 0 && drawn[1] == 0 ? 1 : 3;
            left[t]--;
            d.x.chance(1);
            Desk.due("17 of those that are not DONE", d.x.count(9), t);
        }
        Desk.due("20 a DRAW of one only, too", d.x.seed(1) + " " + d.x.count(3), seed + " 15");
    }

    private static void noDraws() {
        Desk d = new Desk("thread out, out");
        d.x.run(1);
        Desk.due("20 RUN draws none", d.x.seed(1), 1);
        d.steps(0);
        Desk.due("17 all DONE", d.x.chance(100) + " " + d.x.seed(7), "0 1");
        Desk.throwsDue("17 n is none", IllegalArgumentException.class, () -> d.x.chance(0));
        Desk.due("20 a refused call draws none", d.x.seed(1), 7);
    }

    /** HELD UP for ever. More than 512 calls: no shorter way leads to the last TICK, and no bound is told for it. */
    private static Desk atTick(int tick, String more) {
        Desk d = new Desk("need 16; thread take 0, take 0" + more);
        d.steps(0);
        int left = tick - 1;
        while (left > 0) {
            left -= d.x.run(Math.min(100, left));
        }
        return d;
    }

    private static void lastTick() {
        Desk d = atTick(99899, "");
        Desk.due("16 100 are left", d.x.run(99) + " " + d.x.count(2), "99 99998");
        d.x.image();
        Desk.due("16 one is left", d.x.run(100) + " " + d.x.count(2), "1 99999");
        Desk.due("16 none is left", d.x.run(1) + " " + d.x.run(100), "0 0");
        Desk.due("17 none is left", d.x.chance(1) + " " + d.x.chance(100) + " " + d.x.seed(1), "0 0 1");
        Desk.throwsDue("15 TICK is 99999", IllegalStateException.class, () -> d.x.step(0));
        Desk.throwsDue("15 THREAD first", IndexOutOfBoundsException.class, () -> d.x.step(1));
        Desk.throwsDue("16 n is none", IllegalArgumentException.class, () -> d.x.run(0));
        Desk.throwsDue("17 n is none", IllegalArgumentException.class, () -> d.x.chance(101));
        Desk.due("35 it stays", d.x.count(2) + " " + d.x.thread(0, 0), "99999 1");
        Desk.due("18 POKED still", d.x.poke(1, 5) + " " + d.x.word(1), "0 5");
        d.x.back();
        Desk.due("15 the last STEP by hand", d.x.step(0) + " " + d.x.count(2), "0 99999");
        d.x.back();
        Desk.due("17 the last by a DRAW", d.x.chance(2) + " " + d.x.count(2), "1 99999");
    }

    private static void lastTickAhead() {
        Desk d = atTick(99994, "; thread work 3, out");
        // THREAD 1 is DONE early: TICKS go by THREAD 0 alone.
        Desk.due("6 DONE", d.x.thread(1, 3) + " " + d.x.due(1) + " " + d.x.due(0), "1 0 -1");
        d.tell("thread out, out; thread out, out, out");
        // From behind 0 on: 2, 3, 0, 2, 3 and TICK is 99999; the third out of THREAD 3 is none any more.
        Desk.due("35 five are left", d.x.count(2) + " " + d.x.count(9), "99994 0");
        Desk.due("21 by the last TICK", d.x.due(2) + " " + d.x.due(3), "4 -1");
        Desk.due("16 so it is", d.x.run(100) + " " + d.x.count(3), "5 6");
        Desk.due("21 no STEP ahead", d.x.due(2) + " " + d.x.due(3), "0 -1");
        Desk.due("22 23 nor for all", d.x.quickest(0) + " " + d.x.quickest(1) + " " + d.x.plain(), "-1 -1 -1");
    }

    private static void lastTickOfAll() {
        Desk d = atTick(99998, "");
        d.x.poke(16, 0);
        Desk.due("21 22 23 the one that is left", d.x.due(0) + " " + d.x.quickest(1) + " " + d.x.plain(), "1 1 1");
        Desk e = atTick(99999, "");
        e.x.poke(16, 0);
        Desk.due("21 22 23 none is left", e.x.due(0) + " " + e.x.quickest(1) + " " + e.x.plain(), "-1 -1 -1");
        e.tell("thread out");
        Desk.due("21 though it would be its turn", e.x.due(1) + " " + e.x.run(1), "-1 0");
        Desk.throwsDue("15 TICK is 99999", IllegalStateException.class, () -> e.x.step(1));
    }

    private static void lastTickGoneBackFrom() {
        Desk d = new Desk("thread out, out");
        d.x.image();
        d.x.run(2);
        d.x.back();
        Desk.due("34 TICK too", d.x.count(2) + " " + d.x.run(100), "0 2");
    }

    private static void mostCalls() {
        ElidedLocks x = new ElidedLocks();
        // "thread take 0,take 0" are the first three calls, the last look is the 512th.
        x.feed(0x74687265, 0x61642074, 0x616b6520, 0x302c7461, 0x6b652030);
        x.tune(4, 16);
        x.machine();
        for (int call = 4; call < 512; call++) {
            Desk.due("16 call " + call, x.run(100), 100);
        }
        Desk.due("35 call 512", x.count(2), 50800);
    }

    private static void noImage() {
        Desk d = new Desk("word 1 3; need 0; thread take 0, put 1, drop 0, out");
        d.steps(0, 0);
        String before = Picture.of(d.x);
        Desk.due("34 none was kept", d.x.back(), false);
        Desk.due("34 nothing happens", Picture.of(d.x), before);
        d.x.image();
        d.steps(0);
        Desk.due("34 one was kept", d.x.back() + " " + Picture.of(d.x).equals(before), "true true");
    }

    private static void imagesTwice() {
        Desk d = new Desk();
        d.x.image();
        d.tell("thread out, out");
        d.steps(0);
        d.x.image();
        d.steps(0);
        Desk.due("34 the later one", d.x.back() + " " + d.x.count(2) + " " + d.x.count(0), "true 1 1");
        d.steps(0);
        Desk.due("34 it is there still", d.x.back() + " " + d.x.count(2), "true 1");
        Desk.due("34 though nothing happened between", d.x.back() + " " + d.x.count(2), "true 1");
        ElidedLocks x = new ElidedLocks();
        x.image();
        x.poke(1, 1);
        Desk.due("34 of a new object", x.back() + " " + x.word(1), "true 0");
        d = new Desk();
        d.x.image();
        d.tell("thread out");
        d.x.back();
        Desk f = d;
        Desk.throwsDue("34 its THREADS are gone", IndexOutOfBoundsException.class, () -> f.x.thread(0, 0));
    }

    private static void imageLeavesOut() {
        Desk d = new Desk("thread set 5; thread out");
        d.x.text(0);
        d.wrongByte("older x");
        d.feed("ab");
        d.x.image();
        d.x.text(1);
        d.x.end(0);
        d.wrongByte("older; x");
        d.feed("abc");
        d.x.back();
        Desk.due("34 not the TAPE", Picture.tapeLength(d.x), 3);
        Desk.due("34 not fault()", d.x.fault(), 7);
        Desk.due("34 not what was written", d.written(11) + d.x.octet(11), "thread out -1");
        d.x.end(0);
        d.tell("");
        d.x.back();
        Desk.due("34 nor a fault() that is none", d.x.fault(), -1);
    }

    private static void imageOfAll() {
        Desk d = new Desk("older; word 1 3; need 0; lock 1 at 2; thread out, take 0, put 1, take 1, work 9, drop 1, drop 0;"
                + "thread set 3, out, take 2, out");
        d.x.run(9);
        d.x.chance(1);
        d.x.text(1);
        String before = Picture.of(d.x);
        d.x.image();
        d.x.run(30);
        d.x.poke(0, 1);
        d.x.poke(31, 1);
        d.x.seed(44);
        for (int what = 1; what <= 8; what++) {
            d.x.tune(what, 1);
        }
        d.tell("trust 3; lock 1 at 9; lock 3 at 8; word 30 1; thread work 9");
        Desk.due("another picture", Picture.of(d.x).equals(before), false);
        d.x.back();
        Desk.due("34 all is as it was", Picture.of(d.x), before);
        // What is TOLD goes back, too.
        d = new Desk("thread out");
        d.x.run(1);
        d.x.image();
        d.tell("word 5 5");
        d.x.poke(5, 0);
        Desk.due("28 TOLD 5", d.serial(), "");
        d.x.back();
        Desk.due("34 TOLD 0", d.serial(), "0");
    }

    /** Behind THE IMAGE the THREAD is in another GUESS, of which nothing may be left. */
    private static void imageOfAnotherGuess() {
        Desk d = new Desk("older; need 0; depth 1; thread set 4, take 0, set 5, put 1, work 2, drop 0, set 6, take 3, put 1, work 9;"
                + "thread take 1, put 5, drop 1");
        d.steps(0, 0, 1, 0, 0);
        String before = Picture.of(d.x);
        d.x.image();
        d.steps(0, 0, 0, 0, 0, 0, 0);
        Desk.due("another GUESS", d.x.leftOut(0, 0) + " " + d.x.sees(0, 1) + " " + d.x.thread(0, 0), "3 6 9");
        d.x.back();
        Desk.due("34 all is as it was", Picture.of(d.x), before);
        d.x.poke(1, 0);
        Desk.due("34 where it BEGAN", d.x.thread(0, 0) + " " + d.x.thread(0, 1), "1 4");
        Desk.due("34 its first LOCK", d.x.lock(0, 2) + " " + d.x.lock(3, 2), "4 8");
        d.x.back();
        d.x.image();
        d.steps(0, 0, 0);
        d.x.back();
        Desk.due("34 KEPT", d.steps(0, 0, 0) + " " + d.x.word(1) + " " + d.x.lock(0, 5), "0 1 1 5 1");
    }

    private static void imageOfTheOlder() {
        Desk d = new Desk("older; need 0; thread take 0, put 1, drop 0, take 0, put 3, drop 0; thread take 1, get 3, put 1, drop 1");
        d.steps(0, 1);
        d.x.image();
        d.steps(0, 0, 0);
        Desk.due("BEGAN later now", d.x.count(4), 3);
        d.x.back();
        d.steps(0, 1);
        Desk.due("34 in which TICK it BEGAN", d.steps(1) + " " + d.x.count(4), "-1 1");
    }

    private static void threadsGoneBackFrom() {
        Desk d = new Desk("older; need 0; thread take 0, put 9, drop 0, out");
        d.steps(0);
        String before = Picture.of(d.x);
        d.x.image();
        d.tell("thread take 1, drop 1, take 2, out, put 1, drop 2; thread take 3, get 9, work 9");
        d.steps(1, 1, 1, 1, 1, 2);
        Desk.due("KEPT, FELL, GUESSING", d.x.count(5) + " " + d.x.fell(-1, 3) + " " + d.x.count(4), "1 1 7");
        d.x.back();
        Desk.due("34 nothing of them counts", Picture.of(d.x), before);
        Desk.due("9 35 nor in what is asked of all", d.x.count(5) + " " + d.x.fell(-1, 3) + " " + d.x.lock(3, 4), "0 0 0");
        Desk.due("15 nor do they clash", d.steps(0) + " " + d.x.poke(28, 0) + " " + d.x.count(8), "1 0 1");
        Desk.due("16 nor have they a turn", d.x.run(100) + " " + d.x.chance(1), "2 0");
    }

    private static void counts() {
        Desk d = new Desk("word 16 1; word 28 9999; thread out; thread out; thread take 1, out; thread take 2, out");
        for (int what : new int[] {-1, 10, Integer.MIN_VALUE, Integer.MAX_VALUE}) {
            Desk.due("35 count(" + what + ")", d.x.count(what), -1);
        }
        d.steps(0, 2, 3);
        Desk.due("35 DONE, GUESSING", d.x.count(3) + " " + d.x.count(4), "1 12");
        Desk.due("35 LOCKS whose WORD is not 0", d.x.count(6), 9);
        Desk.due("35 the first, the last what", d.x.count(0) + " " + d.x.count(9), "4 3");
        d.x.poke(20, 1);
        d.x.poke(24, 2);
        Desk.due("35 all LOCKS", d.x.count(6), 15);
        d.steps(1);
        Desk.due("35 DONE, GUESSING", d.x.count(3) + " " + d.x.count(4), "3 0");
    }
}
