import java.util.NoSuchElementException;

/** AHEAD, TOUCHES to SERIAL at their bounds: promises 21 to 28, sentence by sentence. */
public final class EdgeAskTest {
    public static void main(String[] args) {
        dueBounds();
        dueGoesByRun();
        dueOfThoseDone();
        dueAsItIsNow();
        dueOfAGuess();
        plainBounds();
        plainOfAGuess();
        quickestBounds();
        quickestTies();
        quickestNeeds();
        aheadIsAside();
        touchesBounds();
        touchesOfLocks();
        rivalsBounds();
        rivalsBySide();
        nests();
        partsCounted();
        partsOpen();
        serialNone();
        serialBounds();
        serialParts();
        serialFirst();
        serialInVain();
        serialTakes();
        serialOutputs();
        serialWords();
        Desk.finish();
    }

    /** A PROGRAM of so many STEPS, all of them work. */
    private static String works(int steps) {
        StringBuilder all = new StringBuilder("thread ");
        int left = steps;
        while (left > 0) {
            int n = Math.min(9, left);
            all.append(left < steps ? "," : "").append("work ").append(n);
            left -= n;
        }
        return all.toString();
    }

    private static String dues(Desk d) {
        StringBuilder all = new StringBuilder();
        for (int t = 0; t < d.x.count(0); t++) {
            all.append(t > 0 ? " " : "").append(d.x.due(t));
        }
        return all.toString();
    }

    private static String quickest(Desk d) {
        return d.x.quickest(0) + " " + d.x.quickest(1);
    }

    private static void dueBounds() {
        Desk.due("21 one TICK", dues(new Desk("thread out")), "1");
        Desk.due("21 two THREADS", dues(new Desk(works(199), works(199))), "397 398");
        Desk.due("21 400", dues(new Desk(works(200), works(200))), "399 400");
        Desk.due("21 401 is none", dues(new Desk(works(201), works(200))), "-1 400");
        Desk.due("21 402 is none", dues(new Desk(works(200), works(201))), "399 -1");
        Desk.due("21 none: HELD UP for ever", dues(new Desk("word 16 1; thread take 0; thread out")), "-1 2");
        Desk d = new Desk(works(201), works(200));
        d.x.run(1);
        Desk.due("21 one TICK later", dues(d), "400 399");
        Desk.throwsDue("21 THREAD 2", IndexOutOfBoundsException.class, () -> d.x.due(2));
        Desk.throwsDue("21 THREAD -1", IndexOutOfBoundsException.class, () -> d.x.due(-1));
    }

    private static void dueGoesByRun() {
        Desk d = new Desk("thread out,out; thread out; thread out,out,out");
        // 0 1 2 0 2 2
        Desk.due("21 ahead of any", dues(d), "4 2 6");
        d.steps(2);
        // 0 1 2 0 2
        Desk.due("21 behind the latest", dues(d), "4 2 5");
        d.steps(0);
        // 1 2 0 2
        Desk.due("21 behind the latest", dues(d), "3 1 4");
    }

    private static void dueOfThoseDone() {
        Desk d = new Desk("thread out; thread out");
        d.steps(0);
        Desk.due("21 DONE", dues(d), "0 1");
        d.steps(1);
        Desk.due("21 all DONE", dues(d), "0 0");
    }

    private static void dueAsItIsNow() {
        Desk d = new Desk("down 0; tries 9; thread take 0, out, drop 0");
        Desk.due("21 nine times in vain", dues(d), "21");
        d.steps(0, 0);
        Desk.due("21 TRIED once", dues(d), "19");
        d.x.tune(4, 9);
        Desk.due("21 NEED as it is", dues(d), "3");
        d = new Desk("thread work 9, out");
        d.steps(0, 0, 0, 0);
        Desk.due("21 work that is gone", dues(d), "6");
    }

    private static void dueOfAGuess() {
        Desk d = new Desk("thread set 1, set 1, set 1, take 3, out, drop 3");
        d.steps(0, 0, 0, 0);
        // It falls back to its take, TRUST is 4 then: the LOCK, out, drop.
        Desk.due("21 from where it BEGAN on", dues(d), "4");
        Desk.due("23 likewise", d.x.plain(), 4);
        d = new Desk("thread set 3, take 0, put 1, work 2, drop 0; thread get 1, take 2, drop 2");
        d.steps(0, 0, 0);
        // 1 makes it fall, 0 takes the LOCK: 1 0 1 0 1 0 0 0.
        Desk.due("21 its GUESS falls ahead", dues(d), "8 5");
        Desk.due("21 not now", d.x.count(4), 1);
    }

    private static void plainBounds() {
        Desk.due("23 no THREADS", new Desk().x.plain(), 0);
        Desk.due("23 400", new Desk(works(200), works(200)).x.plain(), 400);
        Desk.due("23 399", new Desk(works(200), works(199)).x.plain(), 399);
        Desk.due("23 401 is none", new Desk(works(201), works(200)).x.plain(), -1);
        Desk.due("23 never", new Desk("thread take 0, take 0; thread out").x.plain(), -1);
        Desk d = new Desk("thread out; thread out");
        d.x.run(1);
        Desk.due("23 one is DONE", d.x.plain(), 1);
        d.x.run(1);
        Desk.due("23 all are", d.x.plain(), 0);
    }

    private static void plainOfAGuess() {
        Desk d = new Desk("trust 15; need 0; down 0; tries 9; thread take 0, out, drop 0");
        Desk.due("23 NEED being 16", d.x.plain() + " " + d.x.due(0) + " " + d.x.term(4), "3 21 0");
        d.steps(0);
        // The GUESS that has begun goes on: it falls, then takes the LOCK.
        Desk.due("23 GUESSING already", d.x.plain(), 4);
    }

    private static void quickestBounds() {
        Desk.due("22 no THREADS", quickest(new Desk()), "0 0");
        Desk.due("22 400", quickest(new Desk(works(200), works(200))), "0 400");
        Desk.due("22 399", quickest(new Desk(works(200), works(199))), "0 399");
        Desk.due("22 401 is none", quickest(new Desk(works(201), works(200))), "-1 -1");
        Desk.due("22 never", quickest(new Desk("word 16 1; thread take 0")), "-1 -1");
        Desk d = new Desk("thread out");
        d.x.run(1);
        Desk.due("22 all DONE", quickest(d), "0 0");
        for (int what : new int[] {-1, 2, Integer.MIN_VALUE, Integer.MAX_VALUE}) {
            Desk.throwsDue("22 what " + what, NoSuchElementException.class, () -> d.x.quickest(what));
        }
    }

    private static void quickestTies() {
        Desk d = new Desk("need 16; thread take 0, drop 0");
        Desk.due("22 all alike: the least", quickest(d), "0 2");
        Desk.due("13 NEED stays", d.x.term(4), 16);
    }

    private static void quickestNeeds() {
        // A GUESS with an OUTPUT in it is in vain, so each NEED above the TRUST is quicker.
        for (int trust = 0; trust <= 15; trust++) {
            Desk d = new Desk("trust " + trust + "; thread take 0, out, drop 0");
            Desk.due("22 TRUST " + trust, quickest(d), (trust + 1) + " 3");
        }
        // So is one whose drops stand in another order than its takes: with DOWN 0 it falls nine times by any NEED up to 4.
        Desk d = new Desk("trust 4; down 0; tries 9; thread take 0, take 1, drop 0, drop 1");
        Desk.due("22 by the LOCKS", quickest(d), "5 4");
    }

    private static void aheadIsAside() {
        Desk d = new Desk("need 0; tries 9; thread out, take 0, put 1, work 3, drop 0; thread get 1, take 1, out, drop 1");
        d.x.run(5);
        d.x.text(1);
        String before = Picture.of(d.x);
        d.x.due(0);
        d.x.due(1);
        d.x.plain();
        d.x.quickest(0);
        d.x.quickest(1);
        d.x.serial(0);
        Desk.due("21 22 23 aside", Picture.of(d.x), before);
        d.x.image();
        d.x.due(0);
        d.x.back();
        Desk.due("33 THE IMAGE is another thing", Picture.of(d.x), before);
    }

    private static void touchesBounds() {
        Desk d = new Desk("wide 1; thread get 0, get 31, put 1, put 30, set 5, plus 6, work 7, out; thread out");
        Desk.due("24 gets", d.x.touches(0, 0), 1 | 1 << 31);
        Desk.due("24 puts", d.x.touches(0, 1), 2 | 1 << 30);
        Desk.due("24 none", d.x.touches(1, 0) + " " + d.x.touches(1, 1), "0 0");
        for (int what : new int[] {-1, 2, Integer.MIN_VALUE, Integer.MAX_VALUE}) {
            Desk.throwsDue("24 what " + what, NoSuchElementException.class, () -> d.x.touches(0, what));
            Desk.throwsDue("24 THREAD first", IndexOutOfBoundsException.class, () -> d.x.touches(2, what));
            Desk.throwsDue("24 THREAD first", IndexOutOfBoundsException.class, () -> d.x.touches(-1, what));
        }
    }

    private static void touchesOfLocks() {
        Desk d = new Desk("wide 1; thread take 0, out; thread drop 3, out; thread take 1, drop 1, get 20, put 20");
        Desk.due("24 takes", d.x.touches(0, 0) + " " + d.x.touches(0, 1), (1 << 16) + " " + (1 << 16));
        Desk.due("24 drops", d.x.touches(1, 0) + " " + d.x.touches(1, 1), (1 << 28) + " " + (1 << 28));
        Desk.due("24 both, once", d.x.touches(2, 0) + " " + d.x.touches(2, 1), (1 << 20) + " " + (1 << 20));
        d.tell("lock 3 at 31; lock 0 at 0");
        Desk.due("24 where they lie now", d.x.touches(0, 0) + " " + d.x.touches(1, 1), 1 + " " + (1 << 31));
        d.steps(0, 0);
        Desk.due("24 the PROGRAM, not what was done", d.x.touches(0, 0), 1);
    }

    private static void rivalsBounds() {
        Desk d = new Desk("wide 1; thread put 0, put 31; thread get 0, put 31; thread out");
        Desk.due("25 the first, the last BLOCK", d.x.rivals(0, 1) + " " + d.x.rivals(1, 0), (1 | 1 << 31) + " " + (1 | 1 << 31));
        Desk.due("25 none", d.x.rivals(0, 2) + " " + d.x.rivals(2, 1), "0 0");
        for (int t = 0; t < 3; t++) {
            int one = t;
            Desk.throwsDue("25 both are one", IllegalArgumentException.class, () -> d.x.rivals(one, one));
            for (int other : new int[] {-1, 3, 4, Integer.MIN_VALUE, Integer.MAX_VALUE}) {
                Desk.throwsDue("25 the other", IndexOutOfBoundsException.class, () -> d.x.rivals(one, other));
                Desk.throwsDue("25 the one", IndexOutOfBoundsException.class, () -> d.x.rivals(other, one));
                Desk.throwsDue("25 no THREAD is told first", IndexOutOfBoundsException.class, () -> d.x.rivals(other, other));
            }
        }
    }

    private static void rivalsBySide() {
        String[] deeds = {"put 1", "get 1", "take 0", "set 1"};
        for (String one : deeds) {
            for (String two : deeds) {
                Desk d = new Desk("thread " + one + "; thread " + two);
                boolean puts = one.equals("put 1") || two.equals("put 1");
                boolean both = one.endsWith("t 1") && two.endsWith("t 1") && !one.startsWith("set") && !two.startsWith("set");
                Desk.due("25 " + one + ", " + two, d.x.rivals(0, 1), puts && both ? 1 : 0);
            }
        }
        Desk d = new Desk("wide 8; thread put 7; thread get 0; thread get 8");
        Desk.due("25 BLOCKS, not WORDS", d.x.rivals(0, 1) + " " + d.x.rivals(0, 2), "1 0");
        d = new Desk("thread put 16, out; thread take 0");
        Desk.due("25 a LOCK's WORD is put, but not got", d.x.rivals(0, 1), 0);
    }

    private static int nestOf(String program) {
        return new Desk("thread " + program).x.nest(0);
    }

    private static void nests() {
        Desk.due("26 none", nestOf("out") + " " + nestOf("drop 0, drop 1"), "0 0");
        Desk.due("26 one", nestOf("take 3") + " " + nestOf("take 0, drop 0, take 1, drop 1"), "1 1");
        Desk.due("26 two", nestOf("take 0, take 1, drop 1, drop 0, take 2"), 2);
        Desk.due("26 four", nestOf("take 0, take 1, take 2, take 3, drop 3, drop 2, drop 1, drop 0"), 4);
        Desk.due("26 one twice is one", nestOf("take 0, take 0, take 0"), 1);
        Desk.due("26 dropped once is dropped", nestOf("take 0, take 0, drop 0, take 1"), 1);
        Desk.due("26 in another order", nestOf("take 0, take 1, drop 0, take 2, drop 1, drop 2"), 2);
        Desk.due("26 another one dropped", nestOf("take 0, drop 1, take 2"), 2);
    }

    private static int partsOf(String program) {
        return new Desk("thread " + program).x.parts(0);
    }

    private static void partsCounted() {
        Desk.due("27 one", partsOf("out") + " " + partsOf("take 0") + " " + partsOf("take 0, drop 0"), "1 1 1");
        for (int deeds = 1; deeds <= 24; deeds++) {
            Desk.due("27 each DEED", partsOf("out" + ",out".repeat(deeds - 1)), deeds);
        }
        Desk.due("27 24 in one", partsOf("take 0" + ",out".repeat(22) + ",drop 0"), 1);
        Desk.due("27 one ahead, one behind", partsOf("out, take 0, out, drop 0, out"), 3);
        Desk.due("27 twelve", partsOf("take 0, drop 0" + ", take 1, drop 1".repeat(11)), 12);
        Desk.due("27 drops alone", partsOf("drop 0, drop 0, drop 1"), 3);
    }

    private static void partsOpen() {
        Desk.due("27 to the last DEED", partsOf("out, take 0, out, out") + " " + partsOf("take 0, drop 1, out"), "2 1");
        Desk.due("27 till no LOCK is taken", partsOf("take 0, take 1, drop 0, out, drop 1, out"), 2);
        Desk.due("27 dropped and taken anew", partsOf("take 0, take 1, drop 1, take 1, drop 1, drop 0, out"), 2);
        Desk.due("27 taken twice, dropped once", partsOf("take 0, take 0, drop 0, out"), 2);
        Desk.due("27 the last DEED is a take", partsOf("out, take 0"), 2);
    }

    private static void serialNone() {
        Desk d = new Desk();
        Desk.due("28 no PARTS", d.x.serial(0) + " " + d.x.serial(-1), "-1 -1");
        d = new Desk("thread out, out; thread out");
        d.x.run(2);
        Desk.due("28 one is not DONE", d.serial(), "");
        d.x.run(1);
        Desk.due("28 all are", d.serial(), "010");
        d.tell("thread out");
        Desk.due("28 a new one is not", d.serial(), "");
        d.steps(2);
        Desk.due("28 by hand", d.serial(), "0102");
        d = new Desk("thread out; thread out");
        d.x.chance(1);
        Desk.due("28 one is not DONE", d.serial(), "");
        d.x.chance(1);
        Desk.due("28 by draws", d.serial().length(), 2);
    }

    private static void serialBounds() {
        Desk d = new Desk("thread set 1, set 2; thread set 3");
        d.x.run(100);
        Desk.due("28 the first, the last", d.x.serial(0) + " " + d.x.serial(2), "0 1");
        for (int k : new int[] {-1, 3, 10, 11, Integer.MIN_VALUE, Integer.MAX_VALUE}) {
            Desk.due("28 serial(" + k + ")", d.x.serial(k), -1);
        }
    }

    private static void serialParts() {
        String[] programs = {"thread set 1" + ",set 1".repeat(8), "thread set 1" + ",set 1".repeat(9),
            "thread set 1" + ",set 1".repeat(10)};
        String[] due = {"000000000", "0000000000", ""};
        for (int k = 0; k < 3; k++) {
            Desk d = new Desk(programs[k]);
            d.x.run(100);
            Desk.due("28 PARTS: " + (9 + k), d.serial(), due[k]);
        }
        Desk d = new Desk("thread set 1,set 1,set 1; thread set 1,set 1,set 1; thread set 1,set 1; thread set 1,set 1");
        d.x.run(100);
        Desk.due("28 ten of four THREADS", d.serial() + " " + d.x.serial(9) + " " + d.x.serial(10), "0001112233 3 -1");
        d = new Desk("thread set 1,set 1,set 1; thread set 1,set 1,set 1; thread set 1,set 1,set 1; thread set 1,set 1");
        d.x.run(100);
        Desk.due("28 eleven of four THREADS", d.serial(), "");
        // 24 DEEDS in one PART: ten PARTS of many more DEEDS.
        String whole = "take 0" + ",plus 1".repeat(22) + ",drop 0";
        d = new Desk("need 16; thread " + whole, "thread " + whole, "thread set 1" + ",set 1".repeat(7));
        d.x.run(100);
        d.x.run(100);
        Desk.due("28 PARTS count, not DEEDS", d.serial(), "0122222222");
        // The worst search: no ORDER will do, and each must be tried to its end.
        d = new Desk("thread set 1,set 1,set 1; thread set 1,set 1,set 1; thread set 1,set 1; thread set 1,set 1");
        d.x.run(100);
        d.x.poke(31, 1);
        Desk.due("28 none of all", d.serial(), "");
    }

    private static void serialFirst() {
        // The lesser THREAD goes ahead wherever that gives the same.
        Desk d = new Desk("thread set 1, put 1; thread set 2, put 2; thread set 3, put 3");
        d.steps(2, 2, 1, 1, 0, 0);
        Desk.due("28 the first ORDER", d.serial(), "001122");
        d = new Desk("thread set 1, put 1; thread set 2, put 1; thread set 3, put 1");
        d.steps(2, 2, 1, 1, 0, 0);
        // 0's put must come last: all else of the lesser ones stands ahead.
        Desk.due("28 the first ORDER", d.serial(), "011220");
        // The SUM goes on from PART to PART of a THREAD.
        d = new Desk("thread set 4, plus 5, put 1; thread get 1, plus 1, put 2");
        d.x.run(100);
        Desk.due("28 1 got 0, ahead of the put", d.x.word(1) + " " + d.x.word(2) + " " + d.serial(), "9 1 001011");
    }

    private static void serialInVain() {
        // 0's PART is tried first, in vain: its SUM, its WORDS and LOCKS are as they were then.
        Desk d = new Desk("need 16; thread take 0, plus 1, put 0, drop 0; thread get 0, put 1");
        d.steps(1, 1, 0, 0, 0, 0);
        Desk.due("28 SUM", d.x.word(0) + " " + d.x.word(1) + " " + d.serial(), "1 0 101");
        d = new Desk("need 16; thread take 0, get 2, plus 1, put 2, drop 0; thread set 5, put 2");
        d.steps(1, 1, 0, 0, 0, 0, 0);
        Desk.due("28 WORDS", d.x.word(2) + " " + d.serial(), "6 110");
        d = new Desk("need 16; thread out, take 0; thread set 2, take 0, out, drop 0");
        d.steps(1, 1, 1, 1, 0, 0);
        Desk.due("28 LOCKS and OUTPUTS", d.x.output(0, 0) + " " + d.x.output(1, 0) + " " + d.serial(), "1 0 1100");
    }

    private static void serialTakes() {
        Desk d = new Desk("need 16; thread take 0, set 1, put 1; thread set 2, take 0, drop 0");
        d.steps(1, 1, 1, 0, 0, 0);
        Desk.due("28 a take whose WORD is not 0 makes it none", d.serial(), "110");
        d = new Desk("word 16 1; thread take 0, drop 0");
        d.x.poke(16, 0);
        d.x.run(2);
        Desk.due("28 from WORDS as TOLD", d.serial(), "");
        d = new Desk("thread drop 0, out");
        d.x.run(2);
        Desk.due("28 a drop is a WRITE of 0", d.serial(), "00");
        d = new Desk("word 16 5; thread drop 0, take 0, drop 0");
        d.x.run(3);
        Desk.due("28 dropped first", d.serial(), "00");
        d = new Desk("need 0; thread take 0, take 1, drop 1, drop 0; thread take 2");
        d.x.run(4);
        d.x.run(100);
        Desk.due("28 one that is taken still", d.x.word(24) + " " + d.serial(), "1 01");
        d.x.poke(24, 0);
        Desk.due("28 LOCKS being WRITTEN", d.serial(), "");
    }

    private static void serialOutputs() {
        Desk d = new Desk("thread set 7, out; thread set 8, out");
        d.steps(1, 1, 0, 0);
        Desk.due("28 OUTPUTS in their order", d.serial(), "0110");
        // 20 are kept, in an ORDER too.
        d = new Desk("need 16; thread take 0" + ",out".repeat(20) + ",drop 0; thread out");
        for (int k = 0; k < 22; k++) {
            d.steps(0);
        }
        d.steps(1);
        Desk.due("28 the 21st is not kept", d.x.count(7) + " " + d.serial(), "20 01");
        d = new Desk("need 16; thread take 0" + ",out".repeat(19) + ",drop 0; thread out");
        for (int k = 0; k < 21; k++) {
            d.steps(0);
        }
        d.steps(1);
        Desk.due("28 the 20th is", d.x.count(7) + " " + d.serial(), "20 01");
        d = new Desk("need 16; thread take 0" + ",out".repeat(19) + ",drop 0; thread out");
        d.steps(1);
        for (int k = 0; k < 21; k++) {
            d.steps(0);
        }
        Desk.due("28 ahead of them", d.serial(), "10");
    }

    private static void serialWords() {
        for (int w = 0; w < 32; w++) {
            Desk d = new Desk("thread out");
            d.x.run(1);
            d.x.poke(w, 1);
            Desk.due("28 all WORDS: " + w, d.serial(), "");
            d.tell("word " + w + " 1");
            Desk.due("28 TOLD so", d.serial(), "0");
            d.x.poke(w, 0);
            Desk.due("28 as they are now", d.serial(), "");
        }
    }
}
