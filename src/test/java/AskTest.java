import java.util.NoSuchElementException;

/** Promises 21 to 28: what is asked of all that. */
public final class AskTest {
    public static void main(String[] args) {
        due();
        plain();
        quickest();
        aside();
        touches();
        rivals();
        nest();
        parts();
        serialOrders();
        serialNone();
        serialOutputs();
        Desk.finish();
    }

    private static void due() {
        Desk d = new Desk("thread set 1, set 2; thread set 1; thread work 9");
        Desk.due("21", d.x.due(0) + " " + d.x.due(1) + " " + d.x.due(2), "4 2 12");
        d.steps(0);
        Desk.due("21 from behind the latest", d.x.due(0) + " " + d.x.due(1), "3 1");
        d.steps(0);
        Desk.due("21 DONE", d.x.due(0), 0);
        Desk.throwsDue("21", IndexOutOfBoundsException.class, () -> d.x.due(3));
        Desk.throwsDue("21", IndexOutOfBoundsException.class, () -> d.x.due(-1));
        Desk e = new Desk("need 16; thread take 0, take 0; thread set 1");
        Desk.due("21 none", e.x.due(0) + " " + e.x.due(1), "-1 2");
        // 200 STEPS each, by turns.
        String works = "thread " + "work 9,".repeat(22) + "work 1, work 1";
        String longer = "thread " + "work 9,".repeat(22) + "work 1, work 2";
        Desk f = new Desk(works, works);
        Desk.due("21 399 and 400", f.x.due(0) + " " + f.x.due(1), "399 400");
        Desk g = new Desk(works, longer);
        Desk.due("21 401 is none", g.x.due(0) + " " + g.x.due(1), "399 -1");
        Desk h = new Desk(longer, works);
        Desk.due("21 401 is none", h.x.due(0) + " " + h.x.due(1), "-1 400");
    }

    private static void plain() {
        Desk.due("23 no THREADS", new Desk().x.plain(), 0);
        Desk d = new Desk("thread take 0, set 1, drop 0; thread take 0, set 1, drop 0");
        // 0 takes, 1 held up, 0, 1 held up, 0 drops, then 1 alone.
        Desk.due("23", d.x.plain(), 8);
        Desk.due("23 NEED stays", d.x.term(4), 8);
        String works = "thread " + "work 9,".repeat(22) + "work 1, work 1";
        Desk.due("23 400", new Desk(works, works).x.plain(), 400);
        Desk.due("23 beyond", new Desk(works, works, "thread set 1").x.plain(), -1);
        Desk.due("23 none", new Desk("thread take 0, take 0").x.plain(), -1);
        d.x.run(100);
        Desk.due("23 all DONE", d.x.plain(), 0);
    }

    private static void quickest() {
        Desk.due("22 no THREADS", new Desk().x.quickest(0) + " " + new Desk().x.quickest(1), "0 0");
        Desk d = new Desk("thread take 0, set 1, drop 0; thread take 0, set 1, drop 0");
        Desk.due("22 guessing", d.x.quickest(0) + " " + d.x.quickest(1), "0 6");
        // A GUESS with an output in it falls: the plain LOCK, from NEED 9 on, is the quicker one.
        d = new Desk("tries 9; down 0; thread take 0, out, drop 0");
        Desk.due("22 plain", d.x.quickest(0) + " " + d.x.quickest(1), "9 3");
        d = new Desk("trust 15; tries 9; down 0; thread take 0, out, drop 0");
        Desk.due("22 not by any TRUST", d.x.quickest(0) + " " + d.x.quickest(1), "16 3");
        Desk.due("23 not by any TRUST", d.x.plain(), 3);
        d = new Desk("thread take 0, take 0");
        Desk.due("22 none", d.x.quickest(0) + " " + d.x.quickest(1), "-1 -1");
        String works = "thread " + "work 9,".repeat(22) + "work 1, work 1";
        Desk.due("22 400", new Desk(works, works).x.quickest(1), 400);
        Desk.due("22 beyond", new Desk(works, works, "thread set 1").x.quickest(1), -1);
        ElidedLocks x = d.x;
        Desk.throwsDue("22", NoSuchElementException.class, () -> x.quickest(2));
        Desk.throwsDue("22", NoSuchElementException.class, () -> x.quickest(-1));
    }

    private static void aside() {
        Desk d = new Desk("thread take 0, put 1, drop 0, out; thread take 0, put 1, drop 0, out");
        d.x.run(3);
        d.x.seed(5);
        d.x.due(0);
        d.x.quickest(0);
        d.x.plain();
        Desk.due("21 aside", d.x.count(2) + " " + d.x.count(9) + " " + d.x.count(8), "3 0 2");
        Desk.due("21 aside", d.x.term(4) + " " + d.x.count(7) + " " + d.x.seed(1), "8 0 5");
        Desk.due("21 aside", d.x.thread(0, 0) + " " + d.x.lock(0, 2) + " " + d.x.thread(0, 2), "2 8 1");
    }

    private static void touches() {
        Desk d = new Desk("lock 3 at 30; thread get 0, put 2, take 1, drop 3, set 31; thread out; thread get 31");
        Desk.due("24", d.x.touches(0, 0), 1 | 1 << 10 | 1 << 15);
        Desk.due("24", d.x.touches(0, 1), 2 | 1 << 10 | 1 << 15);
        Desk.due("24", d.x.touches(1, 0) + d.x.touches(1, 1), 0);
        Desk.due("24", d.x.touches(2, 0) + " " + d.x.touches(2, 1), (1 << 15) + " 0");
        Desk.due("24 bit 31", new Desk("wide 1; thread get 31").x.touches(0, 0), Integer.MIN_VALUE);
        Desk.throwsDue("24", IndexOutOfBoundsException.class, () -> d.x.touches(3, 2));
        Desk.throwsDue("24", NoSuchElementException.class, () -> d.x.touches(0, 2));
        Desk.throwsDue("24", NoSuchElementException.class, () -> d.x.touches(0, -1));
        d.tell("lock 3 at 1");
        Desk.due("24 LOCKS as they lie now", d.x.touches(0, 1), 2 | 1 << 10 | 1);
    }

    private static void rivals() {
        Desk d = new Desk("wide 1; thread put 0, put 1, get 2, get 3, take 0, drop 0;"
                + "thread put 0, get 1, put 2, get 3, take 0; thread get 16");
        Desk.due("25", d.x.rivals(0, 1), 7);
        Desk.due("25 either way", d.x.rivals(1, 0), 7);
        Desk.due("25 no LOCKS", d.x.rivals(0, 2), 0);
        Desk.throwsDue("25", IllegalArgumentException.class, () -> d.x.rivals(1, 1));
        Desk.throwsDue("25", IndexOutOfBoundsException.class, () -> d.x.rivals(3, 3));
        Desk.throwsDue("25", IndexOutOfBoundsException.class, () -> d.x.rivals(0, 3));
        Desk.throwsDue("25", IndexOutOfBoundsException.class, () -> d.x.rivals(-1, 0));
    }

    private static void nest() {
        Desk d = new Desk("thread take 0, take 1, drop 0, take 2, take 3, drop 3, drop 2, drop 1; thread set 1, drop 2;"
                + "thread take 1, take 1, drop 1, take 2, drop 2; thread take 0, drop 0, take 1, drop 1");
        Desk.due("26", d.x.nest(0) + " " + d.x.nest(1) + " " + d.x.nest(2) + " " + d.x.nest(3), "3 0 1 1");
        Desk.throwsDue("26", IndexOutOfBoundsException.class, () -> d.x.nest(4));
        Desk.throwsDue("26", IndexOutOfBoundsException.class, () -> d.x.nest(-1));
    }

    private static void parts() {
        Desk d = new Desk("thread set 1, take 0, set 2, take 1, drop 0, set 3, drop 1, set 4, drop 1;"
                + "thread take 0, set 1, set 2, drop 1; thread take 0, take 0, drop 0, set 1; thread take 0, drop 0, take 1, drop 1");
        Desk.due("27", d.x.parts(0) + " " + d.x.parts(1) + " " + d.x.parts(2) + " " + d.x.parts(3), "4 1 2 2");
        Desk.throwsDue("27", IndexOutOfBoundsException.class, () -> d.x.parts(4));
        Desk.throwsDue("27", IndexOutOfBoundsException.class, () -> d.x.parts(-1));
    }

    private static void serialOrders() {
        // Each adds to the WORD in a PART of its own: any order gives it, so the lesser goes ahead.
        String add = "thread take 0, get 1, plus 5, put 1, drop 0";
        Desk d = new Desk(add + ";" + add, add);
        Desk.due("28 not DONE", d.serial(), "");
        d.x.chance(100);
        d.x.chance(100);
        Desk.due("28", d.serial(), "012");
        Desk.due("28 none", d.x.serial(3) + " " + d.x.serial(-1), "-1 -1");
        // The second one came first.
        d = new Desk("thread set 1, put 1; thread set 2, put 1");
        d.steps(1, 1, 0, 0);
        Desk.due("28", d.serial(), "0110");
        d = new Desk("word 1 5; thread get 1, put 2; thread set 2, put 1");
        d.steps(1, 1, 0, 0);
        Desk.due("28", d.serial(), "1100");
        Desk.due("28 from WORDS as TOLD", d.x.word(2), 2);
        d = new Desk("word 1 5; thread get 1, put 2; thread set 2, put 1");
        d.steps(0, 0, 1, 1);
        Desk.due("28", d.serial(), "0011");
        d = new Desk("thread work 2, get 1, plus 3, put 1; thread set 2, put 1, work 1");
        d.steps(1, 1, 1);
        d.x.run(100);
        Desk.due("28 work is a PART, too", d.serial(), "0110001");
        // The SUM of a PART that was tried in vain is as it was.
        d = new Desk("thread set 4, plus 1, put 0; thread get 0, put 1");
        d.steps(0, 0, 1, 1, 0);
        Desk.due("28", d.serial(), "00101");
        // With ten PARTS still, with eleven no more.
        d = new Desk("thread set 1, set 1, set 1, set 1, set 1; thread set 1, set 1, set 1, set 1, put 0");
        d.x.run(100);
        Desk.due("28 ten", d.serial(), "0000011111");
        d.tell("thread set 1");
        d.x.run(1);
        Desk.due("28 eleven", d.serial(), "");
        // A take of what another PART has left taken makes it none.
        d = new Desk("need 16; thread set 3, take 0, put 1; thread take 0, drop 0");
        d.steps(1, 1, 0, 0, 0);
        Desk.due("28 the one that never drops comes last", d.serial(), "010");
    }

    private static void serialNone() {
        Desk d = new Desk("thread get 1, plus 1, put 1; thread get 1, plus 1, put 1");
        d.x.run(100);
        Desk.due("28 a lost one, each DEED by itself", d.serial(), "001011");
        Desk.due("28 one was lost", d.x.word(1), 1);
        d = new Desk("thread take 0, get 1, plus 1, put 1, drop 0; thread take 1, get 1, plus 1, put 1, drop 1");
        d.x.tune(4, 16);
        d.x.run(100);
        Desk.due("28 one was lost", d.x.word(1), 1);
        Desk.due("28 no ORDER of whole PARTS", d.serial(), "");
        d.x.poke(1, 2);
        Desk.due("28 as they are now", d.serial(), "01");
        d.x.poke(0, 1);
        Desk.due("28 all WORDS", d.serial(), "");
        d.x.poke(0, 0);
        d.x.poke(31, 1);
        Desk.due("28 all WORDS", d.serial(), "");
        d.tell("word 31 1");
        Desk.due("28 TOLD so", d.serial(), "01");
        d.x.image();
        d.x.poke(31, 2);
        Desk.due("28 POKED, not TOLD", d.serial(), "");
        d.x.back();
        Desk.due("28 gone back", d.serial(), "01");
        d.tell("word 20 1");
        Desk.due("28 a take whose WORD is not 0", d.serial(), "");
        Desk e = new Desk("word 20 1; thread take 1, drop 1");
        e.x.poke(20, 0);
        e.x.run(100);
        Desk.due("28 even if all comes out", e.x.count(3) + " " + e.x.word(20) + e.serial(), "1 0");
        // SUMS are 0 at the begin of a later search, too.
        e = new Desk("thread put 0, set 5");
        e.x.run(100);
        Desk.due("28", e.serial(), "00");
        e.x.poke(9, 1);
        Desk.due("28", e.serial(), "");
        e.x.poke(9, 0);
        Desk.due("28 SUMS 0", e.serial(), "00");
        d.tell("word 20 0");
        Desk.due("28 it is 0 again", d.serial(), "01");
    }

    private static void serialOutputs() {
        Desk d = new Desk("thread set 1, out; thread set 2, out");
        d.steps(0, 1, 1, 0);
        Desk.due("28 OUTPUTS in their order", d.serial(), "0110");
        d = new Desk("thread set 1, out; thread set 1, out");
        d.steps(1, 1, 0, 0);
        Desk.due("28 the THREAD counts", d.serial(), "0110");
        d = new Desk("need 0; thread out; thread take 0, out, drop 0");
        d.x.run(100);
        Desk.due("28", d.serial() + " " + d.serial(), "01 01");
        // 22 in one PART: those that were not kept do not count.
        d = new Desk("need 16; thread take 0," + "out,".repeat(22) + "drop 0; thread set 1, out");
        d.steps(0);
        d.x.run(100);
        Desk.due("28 20 are kept", d.x.count(7), 20);
        Desk.due("28 between the others", d.serial(), "");
        d = new Desk("need 16; thread take 0," + "out,".repeat(22) + "drop 0; thread set 1, out");
        for (int k = 0; k < 24; k++) {
            d.steps(0);
        }
        d.steps(1, 1);
        Desk.due("28 behind the others", d.serial(), "011");
        // The last of 21 was not kept, but it may not come ahead of those that were.
        d = new Desk("need 16; thread out; thread take 0," + "out,".repeat(20) + "drop 0");
        for (int k = 0; k < 22; k++) {
            d.steps(1);
        }
        d.steps(0);
        Desk.due("28 20 are kept", d.x.count(7) + " " + d.x.count(3), "20 3");
        Desk.due("28 not ahead of them", d.serial(), "10");
    }
}
