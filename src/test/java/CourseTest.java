import java.util.NoSuchElementException;

/** Promises 6 to 12, 15 to 20, 29, 30, 33 to 35: how it goes on. */
public final class CourseTest {
    public static void main(String[] args) {
        wrongInputs();
        guessKept();
        plainLock();
        heldUp();
        clashOfReadAndWrite();
        clashOfWrites();
        blocksAreWide();
        oldest();
        buffer();
        unpaired();
        shown();
        heldInside();
        depth();
        trust();
        healing();
        tries();
        work();
        sums();
        turns();
        draws();
        poking();
        tuning();
        outputs();
        logRows();
        images();
        imageOfAGuess();
        imageOfCounts();
        imageOfAFullLog();
        placeOfAnother();
        takeReads();
        firstAndLastWord();
        counts();
        Desk.finish();
    }

    private static void wrongInputs() {
        Desk d = new Desk("thread take 0, drop 0");
        Class<IndexOutOfBoundsException> index = IndexOutOfBoundsException.class;
        Class<NoSuchElementException> none = NoSuchElementException.class;
        Class<IllegalArgumentException> argument = IllegalArgumentException.class;
        for (int t : new int[] {-1, 1, 4, Integer.MIN_VALUE, Integer.MAX_VALUE}) {
            Desk.throwsDue("6", index, () -> d.x.thread(t, 99));
            Desk.throwsDue("7", index, () -> d.x.leftOut(t, 0));
            Desk.throwsDue("8", index, () -> d.x.blocks(t, 99));
            Desk.throwsDue("11", index, () -> d.x.sees(t, 0));
            Desk.throwsDue("15", index, () -> d.x.step(t));
            if (t != -1) {
                Desk.throwsDue("9", index, () -> d.x.fell(t, 99));
            }
        }
        for (int w : new int[] {-1, 32, Integer.MIN_VALUE, Integer.MAX_VALUE}) {
            Desk.throwsDue("10", index, () -> d.x.word(w));
            Desk.throwsDue("11", index, () -> d.x.sees(0, w));
            Desk.throwsDue("18", index, () -> d.x.poke(w, -1));
            Desk.throwsDue("6", none, () -> d.x.thread(0, w));
            Desk.throwsDue("8", none, () -> d.x.blocks(0, w));
            Desk.throwsDue("9", none, () -> d.x.fell(0, w));
            Desk.throwsDue("9", none, () -> d.x.fell(-1, w));
            Desk.throwsDue("12", index, () -> d.x.lock(w, 99));
            Desk.throwsDue("12", none, () -> d.x.lock(0, w));
            Desk.throwsDue("19", none, () -> d.x.tune(w, 99));
            Desk.throwsDue("29", none, () -> d.x.output(0, w));
            Desk.throwsDue("30", none, () -> d.x.log(0, w));
            Desk.due("7", d.x.leftOut(0, w), -1);
            Desk.due("35", d.x.count(w), -1);
        }
        for (int n : new int[] {-1, 0, 101, Integer.MIN_VALUE, Integer.MAX_VALUE}) {
            Desk.throwsDue("16", argument, () -> d.x.run(n));
            Desk.throwsDue("17", argument, () -> d.x.chance(n));
        }
        Desk.throwsDue("6 what 10", none, () -> d.x.thread(0, 10));
        Desk.throwsDue("8 what 2", none, () -> d.x.blocks(0, 2));
        Desk.throwsDue("9 why 5", none, () -> d.x.fell(0, 5));
        Desk.throwsDue("12 lock 4", index, () -> d.x.lock(4, 0));
        Desk.throwsDue("12 what 6", none, () -> d.x.lock(0, 6));
        Desk.throwsDue("18 10000", argument, () -> d.x.poke(0, 10000));
        Desk.throwsDue("18 -1", argument, () -> d.x.poke(0, -1));
        Desk.throwsDue("19 WIDE", none, () -> d.x.tune(0, 1));
        Desk.throwsDue("29 what 2", none, () -> d.x.output(0, 2));
        Desk.throwsDue("30 what 4", none, () -> d.x.log(0, 4));
        Desk.due("35 another what", d.x.count(10), -1);
        Desk.due("nothing happened", d.x.count(2) + d.x.count(8), 0);
        d.x.run(100);
        Desk.throwsDue("15 DONE", IllegalStateException.class, () -> d.x.step(0));
        Desk.due("16 all DONE", d.x.run(1), 0);
        Desk.due("17 all DONE", d.x.chance(1), 0);
    }

    private static void guessKept() {
        Desk d = new Desk("word 4 7; thread take 1, get 4, plus 2, put 6, drop 1, set 1", "thread get 6");
        Desk.due("15", d.steps(0, 0, 0, 0), "1 1 1 1");
        Desk.due("6 AT", d.x.thread(0, 0), 4);
        Desk.due("6 SUM", d.x.thread(0, 1), 9);
        Desk.due("6 GUESSING", d.x.thread(0, 2), 1);
        Desk.due("6 LEFT OUT", d.x.thread(0, 7), 1);
        Desk.due("7", d.x.leftOut(0, 0) + " " + d.x.leftOut(0, 1), "1 -1");
        Desk.due("8 READS", d.x.blocks(0, 0), 1 << 10 | 1 << 2);
        Desk.due("8 WRITES", d.x.blocks(0, 1), 1 << 3);
        Desk.due("10 waits", d.x.word(6), 0);
        Desk.due("11 sees", d.x.sees(0, 6) + " " + d.x.sees(1, 6) + " " + d.x.sees(0, 4), "9 0 7");
        Desk.due("12 LEFT OUT by", d.x.lock(1, 4), 1);
        Desk.due("12 what its WORD is", d.x.lock(1, 1), 0);
        Desk.due("35 GUESSING", d.x.count(4), 1);
        Desk.due("15 KEPT", d.x.step(0), 1);
        Desk.due("10 is there", d.x.word(6), 9);
        Desk.due("6", d.x.thread(0, 2) + d.x.thread(0, 7) + d.x.thread(0, 4), 0);
        Desk.due("6 KEPT", d.x.thread(0, 5), 1);
        Desk.due("8 no GUESS", d.x.blocks(0, 0) | d.x.blocks(0, 1), 0);
        Desk.due("12 TRUST", d.x.lock(1, 2), 9);
        Desk.due("12 TAKEN, LEFT OUT, KEPT", d.x.lock(1, 3) + " " + d.x.lock(1, 4) + " " + d.x.lock(1, 5), "0 0 1");
        Desk.due("30 KEPT", d.row(0), "4 0 1 1");
        Desk.due("30 begins", d.row(1), "0 0 0 1");
        Desk.due("15 the last", d.x.step(0), 1);
        Desk.due("6 DONE", d.x.thread(0, 3), 1);
        Desk.due("30 DONE", d.row(0), "5 0 6 0");
        Desk.due("35", d.x.count(3) + " " + d.x.count(5) + " " + d.x.count(8), "1 1 3");
    }

    private static void plainLock() {
        Desk d = new Desk("need 9; thread take 2, set 5, put 3, drop 2, drop 1");
        Desk.due("15", d.steps(0), "1");
        Desk.due("12 its WORD is 1", d.x.lock(2, 1) + d.x.word(24), 2);
        Desk.due("12 TAKEN", d.x.lock(2, 3), 1);
        Desk.due("6 not GUESSING", d.x.thread(0, 2), 0);
        Desk.due("8 none", d.x.blocks(0, 0), 0);
        Desk.due("30 TAKEN", d.row(0), "0 0 3 2");
        Desk.due("35 LOCKS", d.x.count(6), 4);
        d.steps(0, 0);
        Desk.due("10 at once", d.x.word(3), 5);
        Desk.due("15 drop", d.x.step(0), 1);
        Desk.due("30 dropped", d.row(0), "3 0 4 2");
        Desk.due("35 LOCKS", d.x.count(6), 0);
        Desk.due("12 no TRUST for that", d.x.lock(2, 2), 8);
        d.x.poke(20, 77);
        Desk.due("15 a LOCK that was not taken", d.x.step(0), 1);
        Desk.due("10 is 0", d.x.word(20), 0);
        Desk.due("30 dropped", d.row(1), "4 0 4 1");
        Desk.due("30 DONE", d.row(0), "4 0 6 0");
    }

    private static void heldUp() {
        Desk d = new Desk("need 16; thread take 0, work 1, drop 0; thread take 0, drop 0; thread take 0");
        Desk.due("15 held up", d.steps(0, 1, 1), "1 0 0");
        Desk.due("6 AT stays", d.x.thread(1, 0), 0);
        Desk.due("35 TICK goes on", d.x.count(2), 3);
        d.x.tune(4, 0);
        Desk.due("15 held up, trusted or not", d.x.step(1), 0);
        Desk.due("15 free", d.steps(0, 0, 1, 1), "1 1 1 1");
        // Any number but 0 holds up.
        d.x.poke(16, 2);
        Desk.due("15 held up", d.x.step(2), 0);
    }

    private static void clashOfReadAndWrite() {
        Desk d = new Desk("thread take 0, set 3, put 2, drop 0; thread get 2; thread take 1, get 2, drop 1");
        d.steps(0, 0, 0);
        Desk.due("15 a READ, not GUESSING", d.x.step(1), 1);
        Desk.due("6 SUM of the WORD", d.x.thread(1, 1), 0);
        Desk.due("6 fell back", d.x.thread(0, 0) + " " + d.x.thread(0, 1) + " " + d.x.thread(0, 2), "0 0 0");
        Desk.due("6 TRIED, FELL", d.x.thread(0, 4) + " " + d.x.thread(0, 6), "1 1");
        Desk.due("9", d.x.fell(0, 0) + " " + d.x.fell(-1, 0) + " " + d.x.fell(1, 0) + " " + d.x.fell(0, 1), "1 1 0 0");
        Desk.due("30 of the one that fell", d.row(1), "3 0 2 0");
        Desk.due("12 TRUST", d.x.lock(0, 2), 4);
        d.tell("trust 8");
        d.steps(0, 0, 0);
        Desk.due("15 a READ, GUESSING", d.steps(2, 2), "1 1");
        Desk.due("35 GUESSING", d.x.count(4), 4);
        Desk.due("15 take anew", d.x.tune(4, 0) + " " + d.steps(0, 0), "8 1 1");
        Desk.due("15 a WRITE of what another has read", d.x.step(0), 1);
        Desk.due("35 GUESSING", d.x.count(4), 1);
        Desk.due("9", d.x.fell(2, 0), 1);
    }

    private static void clashOfWrites() {
        Desk d = new Desk("thread take 0, put 1, drop 0; thread take 1, put 1, drop 1; thread take 2, get 1, drop 2;"
                + "thread take 3, put 9, drop 3");
        d.steps(0, 2, 2, 3, 3);
        Desk.due("35 GUESSING", d.x.count(4), 13);
        // Two READS do not clash, nor do BLOCKS that differ.
        Desk.due("15", d.steps(1, 1), "1 1");
        Desk.due("35 one who has read falls", d.x.count(4), 11);
        Desk.due("15", d.steps(0), "1");
        Desk.due("35 one who has written falls", d.x.count(4), 9);
        Desk.due("9 all", d.x.fell(-1, 0), 2);
        Desk.due("30 in a TICK", d.row(0), "7 1 2 0");
    }

    private static void blocksAreWide() {
        Desk d = new Desk("wide 8; thread take 0, put 7, drop 0; thread get 8; thread get 0");
        d.steps(0, 0);
        Desk.due("8", d.x.blocks(0, 0) + " " + d.x.blocks(0, 1), "4 1");
        d.steps(1);
        Desk.due("15 another BLOCK", d.x.count(4), 1);
        d.steps(2);
        Desk.due("15 the same BLOCK", d.x.count(4), 0);
        d = new Desk("wide 1; thread take 0, put 31, get 30");
        d.steps(0, 0);
        Desk.due("8 bit 31", d.x.blocks(0, 1), Integer.MIN_VALUE);
        d = new Desk("wide 3; thread take 0, put 8, get 30");
        d.steps(0, 0);
        Desk.due("8 rounded down", d.x.blocks(0, 0) + " " + d.x.blocks(0, 1), "32 4");
    }

    private static void oldest() {
        String text = "thread take 0, get 9, put 1, drop 0; thread take 1, put 1, drop 1; thread take 2, put 1, drop 2";
        Desk d = new Desk("older; " + text);
        d.steps(1, 1, 0, 0);
        Desk.due("15 the younger falls", d.x.step(0), -1);
        Desk.due("35", d.x.count(4), 2);
        Desk.due("6 AT", d.x.thread(0, 0), 0);
        Desk.due("30", d.row(0), "4 0 2 0");
        d = new Desk("older; " + text);
        d.steps(0, 1, 0, 1);
        Desk.due("15 the older goes on", d.x.step(0), 1);
        Desk.due("35", d.x.count(4), 1);
        d = new Desk("asker; " + text);
        d.steps(1, 1, 0, 0);
        Desk.due("15 whoever asks goes on", d.x.step(0), 1);
        Desk.due("35", d.x.count(4), 1);
        d = new Desk("older; need 8; thread take 0, put 1, drop 0; thread put 1");
        d.steps(0, 0);
        Desk.due("15 not GUESSING", d.x.step(1), 1);
        Desk.due("35 all fall", d.x.count(4), 0);
        d = new Desk("older; wide 1; thread take 0, get 1, drop 0; thread take 1, get 2, put 1; thread take 2, get 1, drop 2");
        d.steps(0, 0, 1, 1, 2, 2);
        Desk.due("15 one of these is older", d.x.step(1), -1);
        Desk.due("35 the others do not fall", d.x.count(4), 5);
    }

    private static void buffer() {
        Desk d = new Desk("buffer 2; thread take 0, put 0, put 2, put 3, put 4, drop 0; thread take 1, get 4, drop 1");
        d.steps(1, 1);
        Desk.due("15 a BLOCK that it has", d.steps(0, 0, 0, 0), "1 1 1 1");
        Desk.due("15 too many", d.x.step(0), -1);
        Desk.due("9 why 1", d.x.fell(0, 1), 1);
        Desk.due("35 ahead of any clash", d.x.count(4), 2);
        Desk.due("10 nothing was written", d.x.word(0) + d.x.word(2), 0);
        d = new Desk("buffer 1; need 16; thread put 0, put 2, put 4");
        Desk.due("15 not GUESSING", d.steps(0, 0, 0), "1 1 1");
    }

    private static void unpaired() {
        Desk d = new Desk("need 0; tries 9; thread take 0, take 0, drop 0; thread take 0, take 1, drop 0; thread take 2, set 4;"
                + "thread set 6, take 3, set 5, drop 3");
        Desk.due("15 taken twice", d.steps(0, 0), "1 -1");
        Desk.due("15 not the latest", d.steps(1, 1, 1), "1 1 -1");
        Desk.due("15 behind the last", d.steps(2, 2), "1 -1");
        for (int t = 0; t < 3; t++) {
            Desk.due("9 why 2", d.x.fell(t, 2), 1);
        }
        Desk.due("6 AT, SUM, DONE", d.x.thread(2, 0) + " " + d.x.thread(2, 1) + " " + d.x.thread(2, 3), "0 0 0");
        Desk.due("12 of the first LOCK", d.x.lock(0, 2) + " " + d.x.lock(1, 2) + " " + d.x.lock(2, 2), "0 8 4");
        d.steps(3, 3, 3);
        d.x.poke(28, 0);
        Desk.due("6 as it BEGAN", d.x.thread(3, 0) + " " + d.x.thread(3, 1), "1 6");
    }

    private static void shown() {
        Desk d = new Desk("thread take 0, out, drop 0, out");
        Desk.due("15", d.steps(0, 0), "1 -1");
        Desk.due("9 why 3", d.x.fell(0, 3), 1);
        Desk.due("29 none", d.x.output(0, 0) + " " + d.x.count(7), "-1 0");
        Desk.due("15", d.steps(0, 0), "1 1");
        Desk.due("29", d.x.output(0, 0) + " " + d.x.output(0, 1), "0 0");
    }

    private static void heldInside() {
        Desk d = new Desk("thread take 0, take 1, drop 1, drop 0; thread take 0, take 2, put 24, drop 2, drop 0");
        d.x.poke(20, 1);
        Desk.due("15", d.steps(0, 0), "1 -1");
        Desk.due("9 why 4", d.x.fell(0, 4), 1);
        Desk.due("6 reads are gone", d.x.blocks(0, 0), 0);
        // Two ways to fall: left out already is told first.
        Desk e = new Desk("wide 1; thread take 0, set 1, put 16, take 0");
        Desk.due("15", e.steps(0, 0, 0, 0), "1 1 1 -1");
        Desk.due("9 why 2", e.x.fell(0, 2) + " " + e.x.fell(0, 4), "1 0");
    }

    private static void depth() {
        String program = "thread take 0, take 1, take 2, take 3, drop 3, drop 2, drop 1, drop 0";
        Desk d = new Desk("depth 4; wide 1; " + program);
        d.steps(0, 0, 0, 0);
        Desk.due("6", d.x.thread(0, 7), 4);
        Desk.due("7", d.x.leftOut(0, 3), 3);
        Desk.due("8", d.x.blocks(0, 1), 0);
        Desk.due("15 one behind another", d.steps(0, 0, 0, 0) + " " + d.x.lock(0, 5), "1 1 1 1 1");
        d = new Desk("depth 2; wide 1; " + program);
        d.steps(0, 0, 0, 0);
        Desk.due("6", d.x.thread(0, 7), 2);
        Desk.due("8 written instead", d.x.blocks(0, 1), 1 << 24 | 1 << 28);
        Desk.due("8 read, too", d.x.blocks(0, 0), 1 << 16 | 1 << 20 | 1 << 24 | 1 << 28);
        Desk.due("11", d.x.sees(0, 24) + " " + d.x.word(24), "1 0");
        Desk.due("12 not TAKEN", d.x.lock(2, 3), 0);
        d.steps(0, 0);
        Desk.due("11 dropped by a WRITE", d.x.sees(0, 24), 0);
        Desk.due("30 no row of that", d.x.count(8), 1);
        d.steps(0, 0);
        Desk.due("30 KEPT", d.row(1), "7 0 1 0");
        d = new Desk("depth 1; buffer 1; wide 1; thread take 0, put 1, take 1");
        Desk.due("15 the WRITE falls", d.steps(0, 0, 0), "1 1 -1");
        Desk.due("9 why 1", d.x.fell(0, 1), 1);
    }

    private static void trust() {
        Desk d = new Desk("trust 14; up 9; down 15; need 15; thread take 0, drop 0; thread take 1, drop 1");
        d.x.tune(4, 14);
        d.steps(0, 0);
        Desk.due("12 15 at most", d.x.lock(0, 2), 15);
        d.steps(1);
        d.x.poke(20, 0);
        Desk.due("12 0 at least", d.x.lock(1, 2), 0);
        d = new Desk("up 0; need 8; thread take 0, drop 0, take 0, drop 0");
        d.steps(0, 0, 0);
        Desk.due("12 NEED at least", d.x.lock(0, 2) + " " + d.x.thread(0, 2), "8 1");
        d = new Desk("need 9; thread take 0, drop 0");
        d.steps(0);
        Desk.due("12 less than NEED", d.x.thread(0, 2), 0);
        d = new Desk("need 0; depth 2; thread take 0, take 1, drop 1, drop 0");
        d.steps(0, 0, 0, 0);
        Desk.due("12 of the first alone", d.x.lock(0, 2) + " " + d.x.lock(1, 2), "9 8");
        Desk.due("12 KEPT of the first alone", d.x.lock(0, 5) + " " + d.x.lock(1, 5), "1 0");
    }

    private static void healing() {
        Desk d = new Desk("need 16; heal 3; thread take 0, drop 0, take 0, drop 0, take 0, drop 0, take 0, drop 0");
        d.x.run(4);
        Desk.due("12 not yet", d.x.lock(0, 2), 8);
        d.x.run(1);
        Desk.due("12 behind three", d.x.lock(0, 2) + " " + d.x.lock(0, 3), "9 3");
        d.x.run(3);
        Desk.due("12 not yet anew", d.x.lock(0, 2) + " " + d.x.lock(0, 3), "9 4");
        d = new Desk("need 16; heal 1; trust 15; thread take 0, drop 0");
        d.x.run(1);
        Desk.due("12 15 at most", d.x.lock(0, 2), 15);
    }

    private static void tries() {
        Desk d = new Desk("need 0; tries 2; thread take 0, out, drop 0");
        Desk.due("15", d.steps(0, 0, 0, 0), "1 -1 1 -1");
        Desk.due("6 TRIED", d.x.thread(0, 4), 2);
        Desk.due("15 takes the LOCK", d.steps(0), "1");
        Desk.due("12 TAKEN", d.x.lock(0, 3) + " " + d.x.thread(0, 4) + " " + d.x.thread(0, 2), "1 0 0");
        Desk.due("6 how often it FELL", d.x.thread(0, 6), 2);
        d = new Desk("need 0; thread take 0, drop 0; thread take 0");
        d.steps(0);
        d.x.poke(16, 0);
        d.steps(0);
        Desk.due("6 TRIED", d.x.thread(0, 4), 1);
        d.steps(0);
        Desk.due("6 TRIED is 0 if KEPT", d.x.thread(0, 4), 0);
    }

    private static void work() {
        Desk d = new Desk("need 0; thread take 0, work 3, work 1, drop 0");
        Desk.due("15", d.steps(0, 0, 0), "1 0 0");
        Desk.due("6 gone", d.x.thread(0, 9) + " " + d.x.thread(0, 0), "2 1");
        d.x.poke(17, 0);
        Desk.due("6 gone no more", d.x.thread(0, 9) + " " + d.x.thread(0, 0), "0 0");
        Desk.due("15 all anew", d.steps(0, 0, 0, 0), "1 0 0 1");
        Desk.due("6", d.x.thread(0, 9) + " " + d.x.thread(0, 0), "0 2");
        Desk.due("15 work 1", d.steps(0), "1");
    }

    private static void sums() {
        Desk d = new Desk("word 1 9990; thread get 1, plus 9, plus 1, plus 999, set 0, put 1");
        int[] sums = {9990, 9999, 0, 999, 0, 0};
        for (int sum : sums) {
            d.steps(0);
            Desk.due("6 SUM", d.x.thread(0, 1), sum);
        }
        Desk.due("10", d.x.word(1), 0);
    }

    private static void turns() {
        Desk d = new Desk("thread set 1, set 1; thread set 1; thread set 1, set 1, set 1");
        Desk.due("35 ahead of any", d.x.count(9), -1);
        int[] turns = {0, 1, 2, 0, 2, 2};
        for (int t : turns) {
            Desk.due("16", d.x.run(1), 1);
            Desk.due("35 latest", d.x.count(9), t);
        }
        Desk.due("16 none any more", d.x.run(100), 0);
        d = new Desk("thread set 1, set 1; thread set 1; thread set 1, set 1, set 1");
        d.steps(1);
        d.x.run(1);
        Desk.due("35 from behind the one by hand", d.x.count(9), 2);
        Desk.due("16 fewer", d.x.run(100), 4);
        Desk.due("35 TICK", d.x.count(2), 6);
        d.tell("thread set 1");
        d.x.run(1);
        Desk.due("35 a later THREAD", d.x.count(9), 3);
        d = new Desk("need 16; thread take 0, take 0");
        Desk.due("16 held up", d.x.run(100), 100);
        Desk.due("35 TICK", d.x.count(2), 100);
    }

    private static void draws() {
        Desk d = new Desk("thread set 1, set 1, set 1; thread set 1, set 1, set 1; thread set 1, set 1, set 1");
        int seed = 1;
        int[] left = {3, 3, 3};
        for (int k = 0; k < 9; k++) {
            int going = (left[0] > 0 ? 1 : 0) + (left[1] > 0 ? 1 : 0) + (left[2] > 0 ? 1 : 0);
            seed = seed * 1103515245 + 12345;
            int ahead = (seed >>> 16) % 32768 % going;
            int t = 0;
            while (left[t] == 0 || ahead-- > 0) {
                t++;
            }
            left[t]--;
            Desk.due("17", d.x.chance(1), 1);
            Desk.due("17 drawn", d.x.count(9), t);
        }
        Desk.due("17 none", d.x.chance(100), 0);
        Desk.due("20 no DRAW without a THREAD", d.x.seed(-7), seed);
        Desk.due("20", d.x.seed(0), -7);
    }

    private static void poking() {
        Desk d = new Desk("thread take 0, put 2, drop 0; thread take 1, get 3, drop 1; thread take 2, get 4, drop 2");
        d.steps(1, 1, 0, 0, 2, 2);
        Desk.due("35", d.x.count(4), 5);
        Desk.due("18", d.x.poke(0, 9999), 0);
        Desk.due("18 another BLOCK", d.x.count(4), 5);
        Desk.due("18 what it was", d.x.poke(0, 1), 9999);
        Desk.due("18", d.x.poke(3, 0), 0);
        Desk.due("18 written falls", d.x.count(4), 4);
        Desk.due("18", d.x.poke(5, 0), 0);
        Desk.due("18 read falls", d.x.count(4), 0);
        Desk.due("30 at the TICK that comes", d.row(0), "6 2 2 0");
        Desk.due("18 no TICK", d.x.count(2), 6);
        // A WORD that is told, not POKED, is a WRITE by nobody.
        d = new Desk("thread take 0, get 2, drop 0");
        d.steps(0, 0);
        d.tell("word 2 5");
        Desk.due("4 told", d.x.count(4), 1);
    }

    private static void tuning() {
        int[] least = {0, 1, 1, 1, 0, 0, 0, 1, 0};
        int[] most = {0, 9, 4, 8, 16, 9, 15, 9, 1};
        int[] first = {0, 3, 2, 4, 8, 1, 4, 2, 0};
        Desk d = new Desk();
        for (int k = 1; k < 9; k++) {
            int what = k;
            Desk.throwsDue("19", IllegalArgumentException.class, () -> d.x.tune(what, least[what] - 1));
            Desk.throwsDue("19", IllegalArgumentException.class, () -> d.x.tune(what, most[what] + 1));
            Desk.due("19 what it was", d.x.tune(k, most[k]), first[k]);
            Desk.due("19 what it was", d.x.tune(k, least[k]), most[k]);
            Desk.due("13", d.x.term(k), least[k]);
        }
        Desk.throwsDue("19", NoSuchElementException.class, () -> d.x.tune(9, 1));
    }

    private static void outputs() {
        Desk d = new Desk("thread set 5, out, set 6, out; thread set 7, out");
        d.steps(1, 0, 0, 1, 0, 0);
        String all = "";
        for (int k = 0; k < 3; k++) {
            all += d.x.output(k, 0) + ":" + d.x.output(k, 1) + " ";
        }
        Desk.due("29", all, "0:5 1:7 0:6 ");
        Desk.due("29 none", d.x.output(3, 0) + " " + d.x.output(-1, 1), "-1 -1");
        Desk.due("30", d.row(3), "3 1 5 7");
        d = new Desk("thread " + "out,".repeat(19) + "set 8, out, set 9, out");
        d.x.run(100);
        Desk.due("29 20 are kept", d.x.count(7), 20);
        Desk.due("29 the first ones", d.x.output(19, 1) + " " + d.x.output(20, 1), "8 -1");
        Desk.due("30 it came out all the same", d.row(1), "22 0 5 9");
    }

    private static void logRows() {
        Desk d = new Desk("thread out,out,out,out,out,out,out,out,out,out,out,out,out,out,out,out,out,out,out,out,out,out");
        d.x.run(100);
        Desk.due("30", d.x.count(8), 23);
        d.tell("thread out,out,out,out,out,out,out,out,out,out,out,out,out,out,out,out,out,out,out,out,out,out");
        d.tell("thread out,out,out,out,out,out,out,out,out,out,out,out,out,out,out,out,out,out,out,out,out,out");
        d.x.run(100);
        Desk.due("30 60 are kept", d.x.count(8), 60);
        Desk.due("30 the latest", d.row(0), "65 2 6 0");
        Desk.due("30 the oldest", d.row(59), "9 0 5 0");
        Desk.due("30 none", d.x.log(60, 0) + " " + d.x.log(-1, 0), "-1 -1");
        Desk e = new Desk("wide 8; thread take 0, get 1, drop 0; thread take 1, get 2, drop 1; thread set 4, put 3");
        e.steps(1, 1, 0, 0, 2, 2);
        Desk.due("30 by numbers", e.row(2) + "; " + e.row(1) + "; " + e.row(0), "5 0 2 0; 5 1 2 0; 5 2 6 0");
        Desk f = new Desk("need 9; thread take 0, drop 0; thread get 1, take 1, get 16, drop 1");
        f.x.tune(4, 8);
        f.steps(1, 1, 1);
        f.x.tune(4, 9);
        f.steps(0);
        Desk.due("30 the fall ahead of TAKEN", f.row(1) + "; " + f.row(0), "3 1 2 0; 3 0 3 0");
    }

    private static void images() {
        Desk d = new Desk("word 3 4; thread take 0, put 1, get 3, drop 0, out; thread set 7, out");
        Desk.due("34 none was kept", d.x.back(), false);
        d.steps(0, 0, 1, 1);
        d.x.poke(9, 9);
        d.x.image();
        int text = d.x.text(1);
        d.x.seed(99);
        d.x.tune(1, 9);
        d.x.poke(1, 55);
        d.x.run(50);
        d.tell("thread out; older; lock 0 at 1; word 3 8; trust 1");
        d.wrongByte("older older");
        d.feed("need");
        Desk.due("34", d.x.back(), true);
        Desk.due("34 the THREADS", d.x.count(0) + " " + d.x.count(1) + " " + d.x.count(2), "2 1 4");
        Desk.due("34 the GUESS", d.x.count(4) + " " + d.x.blocks(0, 1) + " " + d.x.leftOut(0, 0), "1 1 0");
        Desk.due("34 the WORDS", d.x.word(1) + " " + d.x.word(9) + " " + d.x.word(3), "0 9 4");
        Desk.due("34 the TERMS", d.x.term(1) + " " + d.x.term(8), "3 0");
        Desk.due("34 the LOCKS", d.x.lock(0, 0) + " " + d.x.lock(0, 2), "16 8");
        Desk.due("34 OUTPUTS, LOG, latest", d.x.count(7) + " " + d.x.count(8) + " " + d.x.count(9), "1 3 1");
        Desk.due("34 the seed", d.x.seed(1), 1);
        Desk.due("34 not fault()", d.x.fault(), 6);
        Desk.due("34 not what was written", d.x.octet(text - 1), (int) ' ');
        Desk.due("34 not the TAPE", d.x.end(4), true);
        Desk.due("34 AT, falls", d.x.thread(0, 0) + " " + d.x.thread(0, 6), "2 0");
        d.x.run(100);
        Desk.due("34 once more", d.x.back() + " " + d.x.thread(0, 0), "true 2");
        d.x.end(0);
        d.tell("thread set 3");
        Desk.due("34 a THREAD in the place of one gone back from", d.x.thread(2, 8) + " " + d.x.thread(2, 0), "1 0");
        d.x.image();
        d.steps(2);
        Desk.due("33 the later one", d.x.back() + " " + d.x.count(0) + " " + d.x.thread(2, 3), "true 3 0");
    }

    private static void imageOfAGuess() {
        Desk d = new Desk("older; wide 1; need 0; thread set 6, take 2, set 8, put 3, get 4, work 3, drop 2, out;"
                + "thread take 0, set 1, put 4, drop 0");
        d.steps(0, 1, 0, 0, 0, 0, 0);
        d.x.image();
        d.x.poke(4, 0);
        d.steps(0, 0);
        d.x.poke(24, 0);
        d.x.run(100);
        d.x.back();
        Desk.due("34 READS, WRITES", d.x.blocks(0, 0) + " " + d.x.blocks(0, 1), (1 << 24 | 1 << 4) + " 8");
        Desk.due("34 VALUES", d.x.sees(0, 3) + " " + d.x.word(3), "8 0");
        Desk.due("34 SUM, work", d.x.thread(0, 1) + " " + d.x.thread(0, 9), "0 1");
        Desk.due("34 LEFT OUT", d.x.leftOut(0, 0) + " " + d.x.leftOut(1, 0), "2 0");
        d.steps(1);
        Desk.due("34 BEGAN in which TICK", d.steps(1) + " " + d.x.count(4), "1 2");
        Desk.due("34 where it BEGAN", d.x.thread(0, 0) + " " + d.x.thread(0, 1), "1 6");
        d.x.back();
        Desk.due("34 on to the end", d.steps(0, 0, 0), "0 1 1");
        Desk.due("34 KEPT", d.x.word(3) + " " + d.row(0), "8 9 0 1 2");
    }

    private static void imageOfCounts() {
        Desk d = new Desk("need 0; thread set 3, take 0, out, drop 0, out, set 4, out; thread take 0, drop 0; thread take 1");
        d.steps(1, 1, 0, 0, 0);
        d.x.tune(1, 1);
        d.steps(0, 0, 0);
        d.steps(2);
        String due = "1 0 1 1; 3 3 0; 8 2 2 0";
        Desk.due("as it is", countsOf(d), due);
        d.x.image();
        d.x.run(100);
        d.x.back();
        Desk.due("34 as it was", countsOf(d), due);
        Desk.due("34 OUTPUTS", d.x.output(0, 0) + " " + d.x.output(0, 1) + " " + d.x.output(1, 0), "0 3 -1");
        Desk.due("34 the LOG", d.row(0) + "; " + d.row(d.x.count(8) - 1), "8 2 2 2; 0 1 0 0");
    }

    private static void imageOfAFullLog() {
        String outs = "thread " + "out,".repeat(22) + "out";
        Desk d = new Desk(outs, outs, outs);
        d.x.run(66);
        String oldest = d.row(59);
        d.x.image();
        d.x.run(100);
        Desk.due("30 the oldest is another", d.row(59).equals(oldest), false);
        d.x.back();
        Desk.due("34 all rows", d.row(59), oldest);
    }

    private static void placeOfAnother() {
        Desk d = new Desk("need 0; tries 9; thread set 1");
        d.x.image();
        d.tell("thread take 0, drop 0, set 5, take 1, out; thread set 4, work 9");
        d.steps(1, 1, 1, 1, 1, 1, 2, 2);
        d.x.poke(20, 0);
        d.steps(1);
        // What goes on aside leaves its own THREADS in these places, too.
        Desk.due("6 TRIED, FELL, gone", d.x.thread(1, 4) + " " + d.x.fell(1, 0) + " " + d.x.thread(2, 9), "2 1 1");
        d.x.due(2);
        d.x.due(0);
        d.x.back();
        d.tell("thread set 2; thread work 9");
        for (int t = 1; t < 3; t++) {
            for (int what = 0; what < 8; what++) {
                Desk.due("6 of a new THREAD " + what, d.x.thread(t, what), 0);
            }
            Desk.due("6 no work is gone", d.x.thread(t, 9), 0);
            Desk.due("9 never fell", d.x.fell(t, 0) + d.x.fell(t, 3), 0);
        }
    }

    /** Of LOCK 0 TAKEN and KEPT, of THREADS KEPT, FELL; SUM, TRIED; the latest fall, but one row ahead of it. */
    private static String countsOf(Desk d) {
        String locks = d.x.lock(0, 3) + " " + d.x.lock(1, 3) + " " + d.x.lock(0, 5) + " " + d.x.thread(1, 5);
        String threads = d.x.thread(0, 1) + " " + d.x.output(0, 1) + " " + d.x.thread(0, 4);
        return locks + "; " + threads + "; " + d.x.log(1, 0) + " " + d.x.log(1, 1) + " " + d.x.log(0, 2) + " " + d.x.log(1, 2);
    }

    private static void takeReads() {
        // A take READS the LOCK's WORD, so whoever has written in its BLOCK falls, by one held up, too.
        Desk d = new Desk("need 0; depth 1; thread take 0, take 1, drop 1, drop 0; thread take 1, drop 1; thread take 2, put 17");
        d.steps(0, 0);
        Desk.due("15 begins", d.steps(1) + " " + d.x.count(4), "1 2");
        Desk.due("9", d.x.fell(0, 0), 1);
        d = new Desk("need 0; thread take 0, put 21, drop 0; thread take 1, drop 1");
        d.x.poke(20, 1);
        d.steps(0, 0);
        Desk.due("15 held up", d.steps(1) + " " + d.x.count(4), "0 0");
        // And GUESSING, ahead of what it falls by itself.
        d = new Desk("need 0; depth 2; thread take 0, put 21, drop 0; thread take 1, set 0, take 1");
        d.steps(1, 1, 0);
        d.steps(0);
        Desk.due("15 the WRITE made it fall", d.x.count(4), 1);
        d = new Desk("need 0; older; depth 2; thread take 0, put 25, work 9; thread take 1, take 2");
        d.steps(0, 0, 1);
        Desk.due("15 falls by its READ", d.steps(1) + " " + d.x.fell(1, 0) + " " + d.x.fell(1, 4), "-1 1 0");
    }

    private static void firstAndLastWord() {
        Desk d = new Desk("thread take 0, set 5, put 0, put 31, drop 0");
        d.x.run(100);
        Desk.due("10 KEPT", d.x.word(0) + " " + d.x.word(31), "5 5");
        d = new Desk("need 0; tries 9; thread take 0, set 5, put 0, work 1, drop 0");
        d.steps(0, 0, 0);
        d.x.poke(1, 0);
        Desk.due("11 no VALUE any more", d.x.sees(0, 0), 0);
        d.steps(0);
        Desk.due("11 nor of the next GUESS", d.x.sees(0, 0) + " " + d.x.count(4), "0 1");
    }

    private static void counts() {
        Desk d = new Desk("", "thread take 0, drop 0; thread set 1; thread take 1, drop 1");
        Desk.due("35", d.x.count(0) + " " + d.x.count(1), "3 2");
        d.steps(0, 1, 2);
        Desk.due("35", d.x.count(2) + " " + d.x.count(3) + " " + d.x.count(4), "3 2 5");
        d.steps(2, 0);
        Desk.due("35 KEPT", d.x.count(5), 2);
        d.x.poke(28, 5);
        d.x.poke(16, 5);
        Desk.due("35 LOCKS", d.x.count(6), 9);
    }
}
