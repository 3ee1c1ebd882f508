/** GUESSES, STEPS, TICKS, THE LOG at their bounds: promises 6 to 12, 15 to 17, 29, 30, sentence by sentence. */
public final class EdgeCourseTest {
    public static void main(String[] args) {
        valuesSeen();
        valuesKept();
        blocksRead();
        fellCounts();
        keptCounts();
        bufferSizes();
        bufferTunedDown();
        blockEdges();
        whoClashes();
        noClashWithItself();
        olderByOneTick();
        olderOfSeveral();
        olderNotGuessing();
        fallsBackToWhereItBegan();
        trustLost();
        trustWon();
        trustNeeded();
        triesTried();
        triesTunedDown();
        healed();
        healedToTheMost();
        heldUp();
        locksAnywhere();
        takenTwice();
        seenTaken();
        depths();
        depthTunedDown();
        dropped();
        leftOutBounds();
        sumsWrap();
        works();
        worksThatFall();
        outputsKept();
        outputsGuessed();
        lastDeed();
        lastDeedGuessing();
        turns();
        turnsLeft();
        logFills();
        logRowByRow();
        logRows();
        Desk.finish();
    }

    private static String repeated(String answer, int times) {
        return (answer + " ").repeat(times).strip();
    }

    private static String stepsOf(Desk d, int thread, int times) {
        int[] threads = new int[times];
        java.util.Arrays.fill(threads, thread);
        return d.steps(threads);
    }

    private static void valuesSeen() {
        Desk d = new Desk("word 0 7; word 1 5; thread take 0, put 1, work 9, drop 0; thread out");
        Desk.due("11 no VALUE yet", d.x.sees(0, 1), 5);
        d.steps(0, 0);
        Desk.due("11 a VALUE of 0 is one", d.x.sees(0, 1) + " " + d.x.word(1), "0 5");
        Desk.due("11 the WORD beside it in its BLOCK", d.x.sees(0, 0), 7);
        Desk.due("11 another THREAD", d.x.sees(1, 1), 5);
        Desk.due("11 WORDS 0 and 31", d.x.sees(1, 0) + " " + d.x.sees(1, 31), "7 0");
        Desk.throwsDue("11 WORD 32", IndexOutOfBoundsException.class, () -> d.x.sees(0, 32));
        Desk.throwsDue("11 WORD -1", IndexOutOfBoundsException.class, () -> d.x.sees(0, -1));
        Desk.due("10 WORDS 0 and 31", d.x.word(0) + " " + d.x.word(31), "7 0");
        Desk.throwsDue("10 WORD 32", IndexOutOfBoundsException.class, () -> d.x.word(32));
        Desk.throwsDue("10 WORD -1", IndexOutOfBoundsException.class, () -> d.x.word(-1));
        d.x.poke(0, 9);
        Desk.due("11 the VALUE is gone", d.x.sees(0, 1), 5);
    }

    private static void blocksRead() {
        Desk d = new Desk("wide 1; thread take 0, get 0, get 31, get 0, put 5, drop 0; thread out");
        Desk.due("8 no GUESS", d.x.blocks(0, 0) + " " + d.x.blocks(0, 1), "0 0");
        d.steps(0);
        Desk.due("8 the LOCK's", d.x.blocks(0, 0), 1 << 16);
        d.steps(0, 0, 0);
        Desk.due("8 the first and the last, too", d.x.blocks(0, 0) + " " + d.x.blocks(0, 1), (1 << 16 | 1 | 1 << 31) + " 0");
        d.steps(0);
        Desk.due("8 a WRITE is no READ", d.x.blocks(0, 0) + " " + d.x.blocks(0, 1), (1 << 16 | 1 | 1 << 31) + " 32");
        Desk.due("8 of another", d.x.blocks(1, 0) + " " + d.x.blocks(1, 1), "0 0");
        d.steps(0);
        Desk.due("8 KEPT", d.x.blocks(0, 0) + " " + d.x.blocks(0, 1), "0 0");
    }

    private static void fellCounts() {
        Desk d = new Desk("need 0; tries 9; down 0; thread take 0, take 0, out; thread take 1, out; thread take 2, get 1, out");
        d.steps(0, 0, 0, 0, 1, 1, 2, 2);
        d.x.poke(1, 0);
        d.steps(2, 2, 2);
        String all = "";
        for (int t = -1; t < 3; t++) {
            for (int why = 0; why < 5; why++) {
                all += d.x.fell(t, why);
            }
            all += " ";
        }
        Desk.due("9 all together, then each", all, "10220 00200 00010 10010 ");
        Desk.due("6 how often", d.x.thread(0, 6) + " " + d.x.thread(1, 6) + " " + d.x.thread(2, 6), "2 1 2");
    }

    private static void keptCounts() {
        Desk d = new Desk("thread take 0, drop 0, take 1, drop 1; thread take 1, drop 1; thread out");
        d.steps(0, 0, 0, 0, 1, 1);
        Desk.due("6 KEPT of each", d.x.thread(0, 5) + " " + d.x.thread(1, 5) + " " + d.x.thread(2, 5), "2 1 0");
        Desk.due("35 KEPT of all", d.x.count(5), 3);
        Desk.due("12 KEPT by LOCKS", d.x.lock(0, 5) + " " + d.x.lock(1, 5) + " " + d.x.lock(2, 5), "1 2 0");
    }

    private static void valuesKept() {
        Desk d = new Desk("wide 1; buffer 8; word 0 1; word 1 9999; word 31 3; word 30 4;"
                + "thread take 0, put 1, get 31, put 0, plus 999, put 31, drop 0");
        d.steps(0, 0, 0, 0, 0, 0);
        Desk.due("10 none is there yet", d.x.word(0) + " " + d.x.word(1) + " " + d.x.word(31), "1 9999 3");
        Desk.due("8 the first and the last BLOCK", d.x.blocks(0, 1), 3 | 1 << 31);
        d.steps(0);
        Desk.due("10 all are there", d.x.word(0) + " " + d.x.word(1) + " " + d.x.word(31), "3 0 1002");
        Desk.due("10 the others stay", d.x.word(30) + " " + d.x.word(2), "4 0");
    }

    private static void bufferSizes() {
        for (int buffer = 1; buffer <= 8; buffer++) {
            StringBuilder puts = new StringBuilder();
            for (int w = 0; w <= buffer; w++) {
                puts.append("put ").append(w).append(", put ").append(w).append(',');
            }
            Desk d = new Desk("wide 1; buffer " + buffer + "; thread take 0," + puts + "drop 0");
            Desk.due("15 as many BLOCKS as BUFFER", stepsOf(d, 0, 1 + 2 * buffer), repeated("1", 1 + 2 * buffer));
            Desk.due("8 WRITES", Integer.bitCount(d.x.blocks(0, 1)), buffer);
            Desk.due("15 one more", d.x.step(0) + " " + d.x.fell(0, 1) + " " + d.x.thread(0, 6), "-1 1 1");
        }
        Desk d = new Desk("wide 2; buffer 1; thread take 0, put 0, put 1, put 2");
        Desk.due("15 BLOCKS count, not WORDS", d.steps(0, 0, 0, 0), "1 1 1 -1");
        d = new Desk("wide 1; buffer 1; thread take 0, get 0, get 1, get 2, put 0");
        Desk.due("15 READS do not count", d.steps(0, 0, 0, 0, 0) + " " + d.x.fell(0, 1), "1 1 1 1 -1 0");
        d = new Desk("wide 1; buffer 1; thread put 0, put 1, put 2");
        Desk.due("15 not GUESSING", d.steps(0, 0, 0) + " " + d.x.thread(0, 6), "1 1 1 0");
    }

    private static void bufferTunedDown() {
        String text = "wide 1; buffer 4; thread take 0, put 0, put 1, put 2, put 1, put 3, drop 0";
        Desk d = new Desk(text);
        d.steps(0, 0, 0, 0);
        d.x.tune(3, 2);
        Desk.due("15 a BLOCK that it has", d.steps(0), "1");
        Desk.due("15 more than BUFFER already", d.steps(0) + " " + d.x.fell(0, 1), "-1 1");
        d = new Desk(text);
        d.steps(0, 0, 0, 0, 0);
        d.x.tune(3, 3);
        Desk.due("15 BUFFER already", d.steps(0) + " " + d.x.fell(0, 1), "-1 1");
        d = new Desk(text);
        d.steps(0, 0, 0, 0, 0);
        Desk.due("15 one fewer", d.steps(0) + " " + d.x.fell(0, 1), "1 0");
    }

    private static void blockEdges() {
        for (int wide = 1; wide <= 8; wide++) {
            String text = "wide " + wide + "; thread take 0, put " + wide + ", drop 0;"
                    + "thread get " + (wide - 1) + ", get " + 2 * wide + ", get " + (2 * wide - 1);
            // With WIDE 8 BLOCK 2 is the LOCK's, which is in READS alone.
            Desk d = new Desk(text);
            d.steps(0, 0);
            Desk.due("8 by WIDE " + wide, d.x.blocks(0, 0) + " " + d.x.blocks(0, 1), (1 << 16 / wide) + " 2");
            d.steps(1);
            Desk.due("15 the WORD ahead of the BLOCK", d.x.count(4), 1);
            d.steps(1);
            Desk.due("15 the WORD behind the BLOCK", d.x.count(4), 1);
            d.steps(1);
            Desk.due("15 its last WORD", d.x.count(4), 0);
            d = new Desk("wide " + wide + "; thread take 0, put " + (2 * wide - 1) + ", drop 0; thread get " + wide);
            d.steps(0, 0, 1);
            Desk.due("15 its first WORD", d.x.count(4), 0);
        }
    }

    private static void whoClashes() {
        String[] one = {"get 1", "put 1"};
        for (String mine : one) {
            for (String other : one) {
                boolean both = mine.equals("get 1") && other.equals("get 1");
                String due = both ? "3" : "2";
                Desk d = new Desk("thread take 0, " + other + ", drop 0; thread take 1, " + mine + ", drop 1");
                d.steps(0, 0, 1, 1);
                Desk.due("15 " + mine + " behind a guessed " + other, d.x.count(4), due);
                d = new Desk("thread take 0, " + other + ", drop 0; thread " + mine + ", out");
                d.steps(0, 0, 1);
                Desk.due("15 " + mine + ", not GUESSING, behind " + other, d.x.count(4), both ? "1" : "0");
                d = new Desk("thread take 0, " + other + ", drop 0, out; thread take 1, " + mine + ", drop 1");
                d.steps(0, 0, 0, 1, 1);
                Desk.due("15 the other is KEPT already", d.x.count(4) + " " + d.x.fell(-1, 0), "2 0");
                d = new Desk("thread " + other + ", out; thread take 1, " + mine + ", drop 1");
                d.steps(0, 1, 1);
                Desk.due("15 the other was not GUESSING", d.x.count(4), "2");
            }
        }
        Desk d = new Desk("thread take 0, get 1, drop 0; thread take 1, get 1, drop 1; thread take 2, get 1, drop 2; thread put 0, out");
        d.steps(0, 0, 1, 1, 2, 2, 3);
        Desk.due("15 all these FALL", d.x.count(4) + " " + d.x.fell(-1, 0), "0 3");
        Desk.due("9 each of them", d.x.fell(0, 0) + " " + d.x.fell(1, 0) + " " + d.x.fell(2, 0) + " " + d.x.fell(3, 0), "1 1 1 0");
    }

    private static void noClashWithItself() {
        Desk d = new Desk("older; thread take 0, put 1, get 1, put 1, get 0, put 0, drop 0");
        Desk.due("15 its own GUESS", stepsOf(d, 0, 7) + " " + d.x.thread(0, 5), "1 1 1 1 1 1 1 1");
        // A plain take writes where others have read, but it has no GUESS of its own.
        d = new Desk("need 16; thread take 0, get 16, put 17, drop 0");
        Desk.due("15 not GUESSING", d.steps(0, 0, 0, 0) + " " + d.x.fell(-1, 0), "1 1 1 1 0");
    }

    private static void olderByOneTick() {
        String text = "; thread take 0, put 1, drop 0; thread take 1, put 1, drop 1";
        Desk d = new Desk("older" + text);
        d.steps(0, 1, 0);
        Desk.due("15 the other BEGAN one TICK earlier", d.steps(1) + " " + d.x.count(4), "-1 1");
        Desk.due("9 why 0, the younger alone", d.x.fell(1, 0) + " " + d.x.fell(0, 0), "1 0");
        Desk.due("8 the older has it still", d.x.blocks(0, 1), 1);
        d = new Desk("older" + text);
        d.steps(1, 0, 0);
        Desk.due("15 the other way round", d.steps(1) + " " + d.x.count(4), "1 2");
        d = new Desk("asker" + text);
        d.steps(0, 1, 0);
        Desk.due("15 not OLDER", d.steps(1) + " " + d.x.count(4), "1 2");
        d = new Desk("older; thread take 0, put 1, drop 0; thread take 1, set 5, get 1, drop 1");
        d.steps(0, 0, 1, 1);
        Desk.due("15 a READ likewise", d.steps(1) + " " + d.x.count(4), "-1 1");
        Desk.due("6 all else of the DEED does not happen", d.x.thread(1, 0) + " " + d.x.thread(1, 1), "0 0");
        // One that fell and began anew is the younger one.
        d = new Desk("older; need 0" + text);
        d.steps(0, 1, 1);
        d.x.poke(16, 0);
        d.steps(0);
        Desk.due("15 BEGAN anew", d.steps(0) + " " + d.x.count(4), "-1 2");
    }

    private static void olderOfSeveral() {
        Desk d = new Desk("older; thread take 0, get 1, drop 0; thread take 1, put 1, drop 1; thread take 2, get 1, drop 2");
        d.steps(0, 1, 2, 2, 0);
        Desk.due("15 one of these is older", d.steps(1), "-1");
        Desk.due("35 none of these falls", d.x.count(4) + " " + d.x.fell(-1, 0), "5 1");
        d = new Desk("older; thread take 0, get 1, drop 0; thread take 1, put 1, drop 1; thread take 2, get 1, drop 2");
        d.steps(1, 0, 2, 2, 0);
        Desk.due("15 none of these is older", d.steps(1), "1");
        Desk.due("35 all these fall", d.x.count(4) + " " + d.x.fell(-1, 0), "2 2");
    }

    private static void olderNotGuessing() {
        Desk d = new Desk("older; thread take 0, put 1, drop 0; thread get 1, put 1, out");
        d.steps(0, 0);
        Desk.due("15 a READ, not GUESSING", d.steps(1) + " " + d.x.count(4), "1 0");
        d.tell("trust 8");
        d.steps(0, 0);
        Desk.due("15 a WRITE, not GUESSING", d.steps(1) + " " + d.x.count(4), "1 0");
        d.tell("trust 8");
        d.steps(0, 0);
        d.x.poke(1, 0);
        Desk.due("18 a WORD POKED", d.x.count(4) + " " + d.x.fell(0, 0), "0 3");
    }

    private static void fallsBackToWhereItBegan() {
        Desk d = new Desk("need 0; thread set 6, plus 1, take 3, set 5, put 1, get 2, work 3, drop 3");
        stepsOf(d, 0, 7);
        Desk.due("6 ahead", d.x.thread(0, 0) + " " + d.x.thread(0, 1) + " " + d.x.thread(0, 9), "6 0 1");
        d.x.poke(2, 1);
        Desk.due("6 AT, SUM as it BEGAN", d.x.thread(0, 0) + " " + d.x.thread(0, 1), "2 7");
        Desk.due("6 TRIED, no more GUESSING", d.x.thread(0, 4) + " " + d.x.thread(0, 2) + " " + d.x.thread(0, 7), "1 0 0");
        Desk.due("6 no work is gone", d.x.thread(0, 9), 0);
        Desk.due("8 READS, WRITES", d.x.blocks(0, 0) + " " + d.x.blocks(0, 1), "0 0");
        Desk.due("12 LEFT OUT by none", d.x.lock(3, 4) + " " + d.x.leftOut(0, 0), "0 -1");
        Desk.due("10 nothing was written", d.x.word(1), 0);
        d = new Desk("thread take 0, set 5, out");
        Desk.due("6 from the first DEED on", d.steps(0, 0, 0) + " " + d.x.thread(0, 0) + " " + d.x.thread(0, 1), "1 1 -1 0 0");
    }

    private static void trustLost() {
        int[][] all = {{8, 4, 4}, {5, 4, 1}, {4, 4, 0}, {3, 4, 0}, {0, 4, 0}, {15, 15, 0}, {14, 15, 0}, {15, 14, 1},
            {1, 1, 0}, {0, 15, 0}, {8, 0, 8}, {0, 0, 0}, {15, 0, 15}};
        for (int[] t : all) {
            Desk d = new Desk("need 0; trust " + t[0] + "; down " + t[1] + "; thread take 1, take 2, out");
            Desk.due("15 falls", d.steps(0, 0, 0), "1 1 -1");
            Desk.due("12 TRUST " + t[0] + " less " + t[1], d.x.lock(1, 2), t[2]);
            Desk.due("12 of the first that it LEFT OUT alone", d.x.lock(2, 2), t[0]);
        }
    }

    private static void trustWon() {
        int[][] all = {{8, 1, 9}, {14, 1, 15}, {15, 1, 15}, {13, 2, 15}, {14, 2, 15}, {12, 2, 14}, {5, 9, 14}, {6, 9, 15},
            {7, 9, 15}, {15, 9, 15}, {0, 9, 9}, {0, 0, 0}, {15, 0, 15}};
        for (int[] t : all) {
            Desk d = new Desk("need 0; trust " + t[0] + "; up " + t[1] + "; thread take 1, take 2, drop 2, drop 1");
            Desk.due("15 KEPT", stepsOf(d, 0, 4) + " " + d.x.thread(0, 5), "1 1 1 1 1");
            Desk.due("12 TRUST " + t[0] + " and " + t[1], d.x.lock(1, 2), t[2]);
            Desk.due("12 not of the other", d.x.lock(2, 2), t[0]);
            Desk.due("12 KEPT whose first it was", d.x.lock(1, 5) + " " + d.x.lock(2, 5) + " " + d.x.lock(1, 3), "1 0 0");
        }
    }

    private static void trustNeeded() {
        int[][] all = {{8, 7, 1}, {8, 8, 1}, {8, 9, 0}, {0, 0, 1}, {0, 1, 0}, {1, 1, 1}, {15, 14, 1}, {15, 15, 1}, {15, 16, 0},
            {14, 15, 0}, {0, 16, 0}};
        for (int[] t : all) {
            Desk d = new Desk("trust " + t[0] + "; need " + t[1] + "; thread take 2, drop 2");
            d.steps(0);
            Desk.due("6 TRUST " + t[0] + ", NEED " + t[1], d.x.thread(0, 2) + " " + d.x.word(24), t[2] + " " + (1 - t[2]));
            Desk.due("12 TAKEN", d.x.lock(2, 3), 1 - t[2]);
        }
    }

    private static void triesTried() {
        for (int tries = 1; tries <= 9; tries++) {
            Desk d = new Desk("need 0; tries " + tries + "; thread take 0, out, drop 0, take 0, out, drop 0");
            Desk.due("15 as often as TRIES", stepsOf(d, 0, 2 * tries), repeated("1 -1", tries));
            Desk.due("6 TRIED", d.x.thread(0, 4) + " " + d.x.thread(0, 6) + " " + d.x.lock(0, 3), tries + " " + tries + " 0");
            Desk.due("15 then the LOCK", d.steps(0) + " " + d.x.thread(0, 2) + " " + d.x.lock(0, 3), "1 0 1");
            Desk.due("6 TRIED is 0", d.x.thread(0, 4) + " " + d.x.thread(0, 6), "0 " + tries);
            Desk.due("15 and then anew", stepsOf(d, 0, 2) + " " + stepsOf(d, 0, 2), "1 1 1 -1");
            Desk.due("6 TRIED once", d.x.thread(0, 4), 1);
        }
    }

    private static void triesTunedDown() {
        for (int tries = 2; tries <= 4; tries++) {
            Desk d = new Desk("need 0; tries 9; thread take 0, out, drop 0");
            stepsOf(d, 0, 6);
            Desk.due("6 TRIED", d.x.thread(0, 4), 3);
            d.x.tune(1, tries);
            d.steps(0);
            Desk.due("6 TRIED 3, TRIES " + tries, d.x.thread(0, 2), tries > 3 ? 1 : 0);
        }
        Desk d = new Desk("need 0; thread take 0, get 1, drop 0");
        d.steps(0, 0);
        d.x.poke(1, 0);
        d.steps(0, 0);
        Desk.due("6 TRIED", d.x.thread(0, 4), 1);
        d.steps(0);
        Desk.due("6 TRIED is 0, if KEPT", d.x.thread(0, 4) + " " + d.x.thread(0, 5), "0 1");
    }

    private static void healed() {
        String pairs = "thread take 3, drop 3" + ", take 3, drop 3".repeat(11);
        for (int heal = 1; heal <= 9; heal++) {
            Desk d = new Desk("need 16; trust 0; heal " + heal + ";" + pairs);
            for (int times = 1; times <= 12; times++) {
                d.steps(0, 0);
                Desk.due("12 TAKEN " + times + ", HEAL " + heal, d.x.lock(3, 3) + " " + d.x.lock(3, 2), times + " " + times / heal);
            }
            Desk.due("12 not of the others", d.x.lock(0, 2) + d.x.lock(1, 2) + d.x.lock(2, 2), 0);
        }
    }

    private static void healedToTheMost() {
        Desk d = new Desk("need 16; trust 14; heal 1; thread take 0, drop 0, take 0, drop 0, take 0");
        d.steps(0, 0);
        Desk.due("12 15", d.x.lock(0, 2), 15);
        d.steps(0, 0);
        Desk.due("12 15 at most", d.x.lock(0, 2) + " " + d.x.lock(0, 3), "15 2");
    }

    private static void heldUp() {
        for (int word : new int[] {0, 1, 2, 9999}) {
            Desk d = new Desk("word 16 " + word + "; need 16; thread take 0, out");
            Desk.due("15 its WORD is " + word, d.steps(0) + " " + d.x.thread(0, 0), word == 0 ? "1 1" : "0 0");
            Desk.due("12 TAKEN", d.x.lock(0, 3) + " " + d.x.word(16), word == 0 ? "1 1" : "0 " + word);
        }
        Desk d = new Desk("word 16 1; need 0; thread take 0, out");
        Desk.due("15 HELD UP, trusted or not", d.steps(0, 0) + " " + d.x.thread(0, 2) + " " + d.x.count(8), "0 0 0 0");
        Desk.due("35 TICKS go", d.x.count(2) + " " + d.x.count(9), "2 0");
        d.x.poke(16, 0);
        Desk.due("15 no more", d.steps(0) + " " + d.x.thread(0, 2), "1 1");
    }

    private static void locksAnywhere() {
        for (int w = 0; w < 32; w++) {
            if (w % 4 == 0 && w > 16) {
                continue;
            }
            Desk d = new Desk("need 16; lock 0 at " + w + "; thread take 0, drop 0, take 0");
            d.steps(0);
            Desk.due("12 at " + w, d.x.lock(0, 0) + " " + d.x.lock(0, 1) + " " + d.x.word(w) + " " + d.x.count(6), w + " 1 1 1");
            d.steps(0);
            Desk.due("12 dropped at " + w, d.x.lock(0, 1) + " " + d.x.word(w) + " " + d.x.count(6), "0 0 0");
            d.x.poke(w, 7);
            Desk.due("15 HELD UP at " + w, d.steps(0) + " " + d.x.lock(0, 1) + " " + d.x.count(6), "0 7 1");
        }
    }

    private static void takenTwice() {
        Desk d = new Desk("need 0; thread take 0, take 0, drop 0, drop 0; thread take 1, take 2, take 1, drop 1, out");
        Desk.due("15 the latest once more", d.steps(0, 0) + " " + d.x.fell(0, 2), "1 -1 1");
        Desk.due("15 the first once more", d.steps(1, 1, 1) + " " + d.x.fell(1, 2), "1 1 -1 1");
        d = new Desk("need 0; thread take 0, drop 0, take 0, drop 0");
        Desk.due("15 dropped between", d.steps(0, 0, 0, 0), "1 1 1 1");
        d = new Desk("need 0; thread take 0, take 1, drop 1, take 1, drop 1, drop 0");
        Desk.due("15 dropped between, within", stepsOf(d, 0, 6) + " " + d.x.thread(0, 5), "1 1 1 1 1 1 1");
        // LEFT OUT already is told ahead of what it SEES.
        d = new Desk("need 0; thread take 0, set 1, put 16, take 0");
        Desk.due("15 both", stepsOf(d, 0, 4) + " " + d.x.fell(0, 2) + " " + d.x.fell(0, 4), "1 1 1 -1 1 0");
    }

    private static void seenTaken() {
        Desk d = new Desk("need 0; word 20 1; thread take 0, take 1, drop 1, drop 0");
        Desk.due("15 its WORD is not 0", d.steps(0, 0) + " " + d.x.fell(0, 4), "1 -1 1");
        d = new Desk("need 0; thread take 0, set 1, put 20, take 1");
        Desk.due("15 its VALUE is not 0", stepsOf(d, 0, 4) + " " + d.x.fell(0, 4), "1 1 1 -1 1");
        d = new Desk("need 0; word 20 1; thread take 0, put 20, take 1, drop 1, drop 0");
        Desk.due("15 its VALUE is 0", stepsOf(d, 0, 5) + " " + d.x.thread(0, 5) + " " + d.x.word(20), "1 1 1 1 1 1 0");
        d = new Desk("need 0; depth 1; thread take 0, take 1, take 1, drop 1");
        Desk.due("15 one that it has WRITTEN", d.steps(0, 0, 0) + " " + d.x.fell(0, 4), "1 1 -1 1");
    }

    private static void depths() {
        for (int depth = 1; depth <= 4; depth++) {
            Desk d = new Desk("depth " + depth + "; thread take 0, take 1, take 2, take 3, drop 3, drop 2, drop 1, drop 0");
            for (int taken = 1; taken <= 4; taken++) {
                Desk.due("15", d.steps(0), "1");
                int left = Math.min(taken, depth);
                Desk.due("6 DEPTH " + depth + ", taken " + taken, d.x.thread(0, 7), left);
                Desk.due("8 the others are WRITTEN", Integer.bitCount(d.x.blocks(0, 1)), taken - left);
                Desk.due("11", d.x.sees(0, 12 + 4 * taken), taken > depth ? 1 : 0);
                Desk.due("12 LEFT OUT by", d.x.lock(taken - 1, 4), taken > depth ? 0 : 1);
            }
            Desk.due("15 KEPT", d.steps(0, 0, 0, 0) + " " + d.x.thread(0, 5), "1 1 1 1 1");
            Desk.due("10 none is taken", d.x.count(6) + " " + d.x.lock(3, 3), "0 0");
            Desk.due("30 begins, KEPT, DONE", d.x.count(8), 3);
        }
    }

    private static void depthTunedDown() {
        Desk d = new Desk("depth 4; thread take 0, take 1, take 2, drop 2, drop 1, drop 0");
        d.steps(0, 0);
        d.x.tune(2, 1);
        Desk.due("15 more than DEPTH already", d.steps(0) + " " + d.x.thread(0, 7) + " " + d.x.sees(0, 24), "1 2 1");
        Desk.due("15 KEPT all the same", d.steps(0, 0, 0) + " " + d.x.thread(0, 5), "1 1 1 1");
    }

    private static void dropped() {
        Desk d = new Desk("need 0; thread take 0, take 1, drop 0, drop 1");
        Desk.due("15 not the latest", d.steps(0, 0, 0) + " " + d.x.fell(0, 2), "1 1 -1 1");
        d = new Desk("need 0; word 24 5; thread take 0, drop 2, drop 0, drop 3");
        Desk.due("15 one that is not LEFT OUT", d.steps(0, 0) + " " + d.x.sees(0, 24) + " " + d.x.word(24), "1 1 0 5");
        Desk.due("8 a WRITE", d.x.blocks(0, 1) + " " + d.x.thread(0, 7), (1 << 12) + " 1");
        Desk.due("30 no row: GUESSING", d.x.count(8), 1);
        Desk.due("15 none left: KEPT", d.steps(0) + " " + d.x.thread(0, 2) + " " + d.x.word(24), "1 0 0");
        d.x.poke(28, 9);
        Desk.due("15 not GUESSING", d.steps(0) + " " + d.x.word(28), "1 0");
        Desk.due("30 dropped, then DONE", d.row(1) + "; " + d.row(0), "3 0 4 3; 3 0 6 0");
        d = new Desk("need 0; buffer 1; thread take 0, put 1, drop 1");
        Desk.due("15 its WRITE falls", d.steps(0, 0, 0) + " " + d.x.fell(0, 1) + " " + d.x.count(8), "1 1 -1 1 2");
    }

    private static void leftOutBounds() {
        Desk d = new Desk("depth 4; thread take 3, take 1, take 0, take 2, out; thread out");
        Desk.due("7 none yet", d.x.leftOut(0, 0), -1);
        d.steps(0, 0, 0, 0);
        String all = d.x.leftOut(0, 0) + " " + d.x.leftOut(0, 1) + " " + d.x.leftOut(0, 2) + " " + d.x.leftOut(0, 3);
        Desk.due("7 one behind another", all, "3 1 0 2");
        for (int k : new int[] {-1, 4, 5, Integer.MIN_VALUE, Integer.MAX_VALUE}) {
            Desk.due("7 leftOut(0, " + k + ")", d.x.leftOut(0, k), -1);
        }
        Desk.due("7 of one that is not GUESSING", d.x.leftOut(1, 0), -1);
        d.steps(0);
        Desk.due("7 fallen", d.x.leftOut(0, 0) + " " + d.x.thread(0, 7), "-1 0");
    }

    private static void sumsWrap() {
        int[][] all = {{9998, 1, 9999}, {9999, 0, 9999}, {9999, 1, 0}, {9999, 2, 1}, {9999, 999, 998}, {9000, 999, 9999},
            {9001, 999, 0}, {0, 0, 0}, {0, 999, 999}};
        for (int[] s : all) {
            Desk d = new Desk("word 1 " + s[0] + "; thread get 1, plus " + s[1] + ", put 2");
            d.steps(0, 0, 0);
            Desk.due("6 " + s[0] + " and " + s[1], d.x.thread(0, 1) + " " + d.x.word(2), s[2] + " " + s[2]);
        }
        Desk d = new Desk("thread set 999, set 0");
        Desk.due("6 set", d.x.thread(0, 1) + " " + d.steps(0) + " " + d.x.thread(0, 1), "0 1 999");
        Desk.due("6 set", d.steps(0) + " " + d.x.thread(0, 1), "1 0");
    }

    private static void works() {
        for (int n = 1; n <= 9; n++) {
            Desk d = new Desk("thread work " + n + ", work " + n);
            for (int round = 1; round <= 2; round++) {
                for (int gone = 1; gone < n; gone++) {
                    Desk.due("15 stays", d.x.step(0), 0);
                    Desk.due("6 gone", d.x.thread(0, 9) + " " + d.x.thread(0, 0), gone + " " + (round - 1));
                }
                Desk.due("15 the last", d.x.step(0), 1);
                Desk.due("6 none is gone of the next", d.x.thread(0, 9) + " " + d.x.thread(0, 0), "0 " + round);
            }
            Desk.due("35 TICKS", d.x.count(2) + " " + d.x.thread(0, 3), 2 * n + " 1");
        }
    }

    private static void worksThatFall() {
        for (int gone = 1; gone < 4; gone++) {
            Desk d = new Desk("need 0; thread take 0, work 4, drop 0; thread take 0, work 2");
            d.steps(0);
            stepsOf(d, 0, gone);
            Desk.due("6 gone", d.x.thread(0, 9), gone);
            d.x.poke(16, 0);
            Desk.due("6 fell", d.x.thread(0, 9) + " " + d.x.thread(0, 0), "0 0");
            Desk.due("15 all of them", stepsOf(d, 0, 5), "1 0 0 0 1");
        }
        Desk d = new Desk("need 0; thread take 0, work 2");
        Desk.due("15 the last DEED, GUESSING", d.steps(0, 0, 0) + " " + d.x.fell(0, 2), "1 0 -1 1");
        Desk.due("6 none is gone", d.x.thread(0, 9), 0);
        Desk.due("15 all of them", d.steps(0, 0, 0), "1 0 -1");
    }

    private static void outputsKept() {
        Desk d = new Desk("thread set 1" + ", plus 1, out".repeat(11), "thread set 500" + ", plus 1, out".repeat(11));
        for (int k = 0; k < 22; k++) {
            int t = k % 2;
            if (k < 2) {
                d.steps(t);
            }
            d.steps(t, t);
            int kept = Math.min(k + 1, 20);
            Desk.due("35 kept", d.x.count(7), kept);
            int sum = (t == 0 ? 2 : 501) + k / 2;
            Desk.due("29 OUTPUT " + k, d.x.output(k, 0) + " " + d.x.output(k, 1), k < 20 ? t + " " + sum : "-1 -1");
            Desk.due("29 none yet", d.x.output(k + 1, 0) + " " + d.x.output(k + 1, 1), "-1 -1");
        }
        Desk.due("29 the first is there still", d.x.output(0, 0) + " " + d.x.output(0, 1), "0 2");
        Desk.due("29 the 20th", d.x.output(19, 0) + " " + d.x.output(19, 1), "1 510");
        for (int k : new int[] {-1, 20, Integer.MIN_VALUE, Integer.MAX_VALUE}) {
            Desk.due("29 output(" + k + ")", d.x.output(k, 0) + " " + d.x.output(k, 1), "-1 -1");
        }
    }

    private static void outputsGuessed() {
        Desk d = new Desk("need 0; thread take 0, out, drop 0");
        Desk.due("15 GUESSING", d.steps(0, 0) + " " + d.x.fell(0, 3) + " " + d.x.count(7), "1 -1 1 0");
        d = new Desk("need 16; thread take 0, out, drop 0");
        Desk.due("15 with the LOCK", d.steps(0, 0) + " " + d.x.fell(0, 3) + " " + d.x.count(7), "1 1 0 1");
        d = new Desk("need 0; thread take 0, drop 0, out");
        Desk.due("15 behind it", d.steps(0, 0, 0) + " " + d.x.fell(0, 3) + " " + d.x.count(7), "1 1 1 0 1");
    }

    private static void lastDeed() {
        Desk d = new Desk("thread set 1, out");
        Desk.due("6 the last", d.steps(0) + " " + d.x.thread(0, 0) + " " + d.x.thread(0, 3), "1 1 0");
        Desk.due("6 behind the last", d.steps(0) + " " + d.x.thread(0, 0) + " " + d.x.thread(0, 3), "1 2 1");
        Desk.throwsDue("15 DONE", IllegalStateException.class, () -> d.x.step(0));
        Desk e = new Desk("thread out");
        Desk.due("6 a PROGRAM of one", e.x.thread(0, 3) + " " + e.steps(0) + " " + e.x.thread(0, 3), "0 1 1");
        Desk f = new Desk("thread out" + ",out".repeat(23));
        Desk.due("6 a PROGRAM of 24", stepsOf(f, 0, 23) + " " + f.x.thread(0, 3), repeated("1", 23) + " 0");
        Desk.due("6 behind the 24th", f.steps(0) + " " + f.x.thread(0, 0) + " " + f.x.thread(0, 3), "1 24 1");
        Desk.due("35 DONE, as bits", f.x.count(3), 1);
    }

    private static void lastDeedGuessing() {
        Desk d = new Desk("need 0; tries 2; thread take 0");
        Desk.due("15 the GUESS begins with the last DEED", d.steps(0) + " " + d.x.thread(0, 3) + " " + d.x.fell(0, 2), "-1 0 1");
        Desk.due("30 begins and falls in one TICK", d.row(1) + "; " + d.row(0), "0 0 0 0; 0 0 2 2");
        Desk.due("15 once more, then with the LOCK", d.steps(0, 0) + " " + d.x.thread(0, 3) + " " + d.x.word(16), "-1 1 1 1");
        d = new Desk("need 0; thread take 0, drop 0");
        Desk.due("15 KEPT by the last DEED", d.steps(0, 0) + " " + d.x.thread(0, 3) + " " + d.x.fell(0, 2), "1 1 1 0");
        d = new Desk("need 0; thread take 0, take 1, drop 1");
        Desk.due("15 one of two is left", d.steps(0, 0, 0) + " " + d.x.fell(0, 2), "1 1 -1 1");
    }

    private static void turns() {
        Desk d = new Desk("thread out,out,out; thread out,out,out; thread out,out,out; thread out,out,out");
        StringBuilder all = new StringBuilder();
        for (int k = 0; k < 12; k++) {
            d.x.run(1);
            all.append(d.x.count(9));
        }
        Desk.due("16 round and round", all, "012301230123");
        d = new Desk("thread out,out; thread out,out; thread out,out; thread out,out");
        d.steps(3);
        d.x.run(1);
        Desk.due("16 behind the last comes 0", d.x.count(9), 0);
        d.steps(2);
        d.x.run(1);
        Desk.due("16 from behind the one by hand", d.x.count(9), 3);
        d = new Desk("thread out; thread out, out; thread out; thread out");
        d.steps(2, 3, 1);
        d.x.run(1);
        Desk.due("16 those that are DONE are passed over", d.x.count(9), 0);
        d.x.run(1);
        Desk.due("16 the only one", d.x.count(9) + " " + d.x.count(3), "1 15");
        d = new Desk("thread out; thread out, out");
        d.steps(0, 1);
        d.x.run(1);
        Desk.due("16 the same one again", d.x.count(9), 1);
        Desk.due("35 of none THREADS", new Desk().x.count(9), -1);
    }

    private static void turnsLeft() {
        for (int n : new int[] {1, 6, 7, 8, 100}) {
            Desk d = new Desk("thread out,out,out; thread out,out,out,out");
            Desk.due("16 run(" + n + ") of 7", d.x.run(n), Math.min(n, 7));
            Desk.due("35 TICK", d.x.count(2), Math.min(n, 7));
            d = new Desk("thread out,out,out; thread out,out,out,out");
            Desk.due("17 chance(" + n + ") of 7", d.x.chance(n), Math.min(n, 7));
        }
        Desk d = new Desk("need 16; thread take 0, take 0");
        Desk.due("16 the most", d.x.run(100) + " " + d.x.chance(100) + " " + d.x.count(2), "100 100 200");
        for (int n : new int[] {0, -1, 101, Integer.MIN_VALUE, Integer.MAX_VALUE}) {
            Desk.throwsDue("16 run(" + n + ")", IllegalArgumentException.class, () -> d.x.run(n));
            Desk.throwsDue("17 chance(" + n + ")", IllegalArgumentException.class, () -> d.x.chance(n));
        }
        Desk.due("16 nothing happened", d.x.count(2), 200);
    }

    private static void logFills() {
        String outs = "thread set 1" + ",plus 1,out".repeat(11);
        Desk d = new Desk(outs, outs, outs, "thread out" + ",out".repeat(23));
        Desk.due("30 an empty one", d.x.count(8) + " " + d.x.log(0, 0) + " " + d.x.log(-1, 0), "0 -1 -1");
        d.x.run(92);
        int rows = d.x.count(8);
        Desk.due("30 33 OUTPUTS of three, 3 DONE, 23 of the last", rows, 59);
        String oldest = d.row(58);
        Desk.due("30 the oldest of 59", oldest, "3 3 5 0");
        Desk.due("30 none beyond", d.row(59), "-1 -1 -1 -1");
        d.steps(3);
        // The last OUTPUT and DONE are two rows: 61 in all.
        Desk.due("30 60 are kept", d.x.count(8), 60);
        Desk.due("30 the latest", d.row(0) + "; " + d.row(1), "92 3 6 0; 92 3 5 0");
        Desk.due("30 the oldest went", d.row(59).equals(oldest) + " " + d.row(60), "false -1 -1 -1 -1");
        for (int ago : new int[] {-1, 60, 61, Integer.MIN_VALUE, Integer.MAX_VALUE}) {
            Desk.due("30 log(" + ago + ")", d.row(ago), "-1 -1 -1 -1");
        }
    }

    private static void logRowByRow() {
        String outs = "thread out" + ",out".repeat(23);
        Desk d = new Desk(outs, outs, outs);
        stepsOf(d, 0, 24);
        stepsOf(d, 1, 24);
        Desk.due("30 24 OUTPUTS and DONE, twice", d.x.count(8), 50);
        for (int rows = 51; rows <= 63; rows++) {
            d.steps(2);
            int kept = Math.min(rows, 60);
            // Two rows of DONE stand ahead, and TICKS go from 0 on: the 51st row is of TICK 48.
            Desk.due("30 rows", d.x.count(8), kept);
            Desk.due("30 the latest", d.row(0), (rows - 3) + " 2 5 0");
            Desk.due("30 the oldest", d.row(kept - 1), (rows - kept) + " 0 5 0");
            Desk.due("30 none beyond", d.row(kept), "-1 -1 -1 -1");
        }
    }

    private static void logRows() {
        Desk d = new Desk("need 0; tries 1; thread set 4, take 2, take 1, drop 1, drop 2, out; thread take 3, out, drop 3");
        d.steps(0, 0, 0, 0, 0, 0);
        Desk.due("30 begins: the LOCK", d.row(3), "1 0 0 2");
        Desk.due("30 KEPT: the first LOCK", d.row(2), "4 0 1 2");
        Desk.due("30 OUTPUT: SUM", d.row(1), "5 0 5 4");
        Desk.due("30 DONE: 0", d.row(0) + " of " + d.x.count(8), "5 0 6 0 of 4");
        d.steps(1, 1, 1, 1, 1);
        Desk.due("30 FALLS: why", d.row(4), "7 1 2 3");
        Desk.due("30 TAKEN: the LOCK", d.row(3), "8 1 3 3");
        Desk.due("30 dropped: the LOCK", d.row(1), "10 1 4 3");
        Desk.due("30 DONE", d.row(0), "10 1 6 0");
    }
}
