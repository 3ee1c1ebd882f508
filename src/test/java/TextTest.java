import java.util.NoSuchElementException;

/** Promises 1 to 5, 13, 14, 31, 32: what is told, and what is written. */
public final class TextTest {
    public static void main(String[] args) {
        newObject();
        feedAndEnd();
        texts();
        termLines();
        wordAndLockLines();
        threadLines();
        blanks();
        wrongBytes();
        tooMany();
        nothingStays();
        twelveTexts();
        terms();
        deeds();
        writing();
        Desk.finish();
    }

    private static void newObject() {
        ElidedLocks x = new ElidedLocks();
        Desk.due("1 threads", x.count(0), 0);
        Desk.due("1 texts", x.count(1), 0);
        Desk.due("1 tick", x.count(2), 0);
        Desk.due("1 latest", x.count(9), -1);
        Desk.due("1 log", x.count(8), 0);
        int[] terms = {2, 3, 2, 4, 8, 1, 4, 2, 0};
        for (int k = 0; k < terms.length; k++) {
            Desk.due("1 term " + k, x.term(k), terms[k]);
        }
        for (int l = 0; l < 4; l++) {
            Desk.due("1 lock's word", x.lock(l, 0), 16 + 4 * l);
            Desk.due("1 lock's trust", x.lock(l, 2), 8);
        }
        for (int w = 0; w < 32; w++) {
            Desk.due("1 word", x.word(w), 0);
        }
        Desk.due("1 seed", x.seed(5), 1);
        Desk.due("1 NONE", ElidedLocks.NONE, -1);
    }

    private static void feedAndEnd() {
        ElidedLocks x = new ElidedLocks();
        for (int k = 1; k <= 20; k++) {
            Desk.due("2 feed", x.feed(0, 0, 0, 0, 0), 20 * k);
        }
        Desk.due("2 feed beyond 400", x.feed(0, 0, 0, 0, 0), -1);
        Desk.due("3 end beyond", x.end(401), false);
        Desk.due("3 end below 0", x.end(-1), false);
        Desk.due("3 end at the length", x.end(400), true);
        Desk.due("3 end", x.end(381), true);
        Desk.due("2 feed to 401", x.feed(0, 0, 0, 0, 0), -1);
        Desk.due("3 none came", x.end(382), false);
        Desk.due("3 end", x.end(380), true);
        Desk.due("2 feed to 400", x.feed(0, 0, 0, 0, 0), 400);
        Desk.due("3 end at 0", x.end(0), true);
        Desk.due("2 feed anew", x.feed(0x6f6c6465, 0x72202020, 0x20202020, 0x20202020, 0x20202020), 20);
        Desk.due("2 the highest byte first", x.machine(), 1);
        Desk.due("2 'older' was told", x.term(8), 1);
        Desk.due("4 the TAPE is used up", x.end(1), false);
        Desk.due("2 the highest bit", x.feed(0x80000000, 0, 0, 0, 0), 20);
        Desk.throwsDue("4 byte 128", IllegalArgumentException.class, x::machine);
        Desk.due("5 at it", x.fault(), 0);
        Desk.due("4 the TAPE is used up", x.end(1), false);
    }

    private static void texts() {
        Desk d = new Desk();
        Desk.due("5 ahead of any", d.x.fault(), -1);
        Desk.due("4 an empty text", d.x.machine(), 1);
        Desk.due("4 blanks alone", d.tell("   "), 2);
        Desk.due("4 a wrong text", d.wrongByte("older x"), 6);
        Desk.due("5 stays", d.x.fault(), 6);
        Desk.due("4 a wrong one does not count", d.tell("older"), 3);
        Desk.due("5 none any more", d.x.fault(), -1);
        Desk.due("count 1", d.x.count(1), 3);
    }

    private static void termLines() {
        String[] names = {"wide", "tries", "depth", "buffer", "need", "up", "down", "heal"};
        int[] least = {1, 1, 1, 1, 0, 0, 0, 1};
        int[] most = {8, 9, 4, 8, 16, 9, 15, 9};
        for (int k = 0; k < names.length; k++) {
            Desk d = new Desk(names[k] + " " + most[k]);
            Desk.due("4 " + names[k], d.x.term(k), most[k]);
            d.tell(names[k] + least[k]);
            Desk.due("4 " + names[k], d.x.term(k), least[k]);
            int number = names[k].length() + 1;
            Desk.due("5 beyond", d.wrongByte(names[k] + " " + (most[k] + 1)), number);
            Desk.due("5 below", d.wrongByte(names[k] + " " + (least[k] - 1)), number);
            Desk.due("5 none", d.wrongByte(names[k] + " "), number);
        }
        Desk d = new Desk("trust 15; older");
        Desk.due("4 trust", d.x.lock(0, 2) + d.x.lock(3, 2), 30);
        Desk.due("4 older", d.x.term(8), 1);
        d.tell("asker; trust 0");
        Desk.due("4 trust", d.x.lock(1, 2) + d.x.lock(2, 2), 0);
        Desk.due("4 asker", d.x.term(8), 0);
        Desk.due("5 trust", d.wrongByte("trust 16"), 6);
        Desk.due("4 the later LINE counts", new Desk("need 3; need 5").x.term(4), 5);
    }

    private static void wordAndLockLines() {
        Desk d = new Desk("word 0 9999; word 31 1; lock 0 at 31");
        Desk.due("4 word", d.x.word(0), 9999);
        Desk.due("4 word", d.x.word(31), 1);
        Desk.due("4 lock", d.x.lock(0, 0), 31);
        Desk.due("4 lock at its own WORD", d.tell("lock 0 at 31"), 2);
        Desk.due("4 at a WORD that was left", d.tell("lock 1 at 16; lock 0 at 20"), 3);
        Desk.due("4 lock", d.x.lock(0, 0), 20);
        Desk.due("5 the WORD of another LOCK", d.wrongByte("lock 0 at 24"), 10);
        Desk.due("5 the WORD of LOCK 0", d.wrongByte("lock 3 at 20"), 10);
        Desk.due("5 just told so", d.wrongByte("lock 3 at 5; lock 2 at 5"), 23);
        Desk.due("5 no LOCK", d.wrongByte("lock 4 at 5"), 5);
        Desk.due("5 no WORD", d.wrongByte("lock 3 at 32"), 10);
        Desk.due("5 no at", d.wrongByte("lock 3 5"), 7);
        Desk.due("5 another word", d.wrongByte("lock 3 att 5"), 7);
        Desk.due("5 no WORD", d.wrongByte("word 32 5"), 5);
        Desk.due("5 more must come", d.wrongByte("word 12"), 7);
        Desk.due("5 five digits", d.wrongByte("word 12 10000"), 8);
        Desk.due("5 five digits", d.wrongByte("word 00012 1"), 5);
        Desk.due("4 four digits", d.tell("word 0012 0003"), 4);
        Desk.due("4 word", d.x.word(12), 3);
    }

    private static void threadLines() {
        Desk d = new Desk("thread out; thread take 3, drop 0, get 31, put 0, set 999, plus 0, work 9, out");
        Desk.due("4 threads", d.x.count(0), 2);
        Desk.due("4 deeds", d.x.thread(1, 8), 8);
        Desk.due("4 one behind another", d.tell("thread work 1"), 2);
        Desk.due("4 threads", d.x.count(0), 3);
        Desk.due("4 AT at first", d.x.thread(2, 0) + d.x.thread(2, 1) + d.x.thread(2, 2), 0);
        Desk.due("5 no LOCK", d.wrongByte("thread take 4"), 12);
        Desk.due("5 no LOCK", d.wrongByte("thread drop 4"), 12);
        Desk.due("5 no WORD", d.wrongByte("thread get 32"), 11);
        Desk.due("5 no WORD", d.wrongByte("thread put 32"), 11);
        Desk.due("5 set", d.wrongByte("thread set 1000"), 11);
        Desk.due("5 plus", d.wrongByte("thread plus 1000"), 12);
        Desk.due("5 work", d.wrongByte("thread work 0"), 12);
        Desk.due("5 work", d.wrongByte("thread work 10"), 12);
        Desk.due("5 out has no number", d.wrongByte("thread out 1"), 11);
        Desk.due("5 no DEED", d.wrongByte("thread"), 6);
        Desk.due("5 no DEED", d.wrongByte("thread ;"), 7);
        Desk.due("5 no such DEED", d.wrongByte("thread out, older"), 12);
        Desk.due("5 no number", d.wrongByte("thread get , out"), 11);
        Desk.due("5 wide behind a THREAD", d.wrongByte("need 2; wide 2"), 8);
        Desk.due("5 wide behind a THREAD of the text", new Desk().wrongByte("wide 3; thread out;wide 3"), 19);
        Desk.due("4 wide ahead of it", new Desk("wide 3; thread out").x.term(0), 3);
    }

    private static void blanks() {
        Desk d = new Desk("  older  ;  need   7;word 3 4;lock1at2;thread take0,set 3 , out  ");
        Desk.due("4 need", d.x.term(4), 7);
        Desk.due("4 word", d.x.word(3), 4);
        Desk.due("4 lock", d.x.lock(1, 0), 2);
        Desk.due("4 deeds", d.x.thread(0, 8), 3);
        Desk.due("5 a tab is none", d.wrongByte("older\t"), 5);
        Desk.due("5 a zero byte is none", d.wrongByte("older\0"), 5);
        Desk.due("5 blanks at the end", d.wrongByte("older ;  "), 9);
    }

    private static void wrongBytes() {
        Desk d = new Desk();
        Desk.due("5 no LINE", d.wrongByte(";"), 0);
        Desk.due("5 no LINE", d.wrongByte(" ; older"), 1);
        Desk.due("5 no LINE", d.wrongByte("older;;older"), 6);
        Desk.due("5 more must come", d.wrongByte("older;"), 6);
        Desk.due("5 a number", d.wrongByte("5"), 0);
        Desk.due("5 great letters", d.wrongByte("Older"), 0);
        Desk.due("5 great letters", d.wrongByte("oldeR"), 0);
        Desk.due("5 a longer word", d.wrongByte("olderr"), 0);
        Desk.due("5 a shorter word", d.wrongByte("olde"), 0);
        Desk.due("5 two names", d.wrongByte("older asker"), 6);
        Desk.due("5 a DEED as a LINE", d.wrongByte("out"), 0);
        Desk.due("5 a word for a number", d.wrongByte("need older"), 5);
        Desk.due("5 a number too many", d.wrongByte("need 1 2"), 7);
        Desk.due("5 a comma", d.wrongByte("need 1, need 2"), 6);
        Desk.due("5 a minus", d.wrongByte("need -1"), 5);
        Desk.due("5 below a", d.wrongByte("need`1"), 4);
        Desk.due("5 above z", d.wrongByte("need{1"), 4);
        Desk.due("5 below 0", d.wrongByte("need 1/"), 6);
        Desk.due("5 above 9", d.wrongByte("need 1:"), 6);
    }

    private static void tooMany() {
        Desk d = new Desk();
        String lines = "up 1;".repeat(13);
        Desk.due("4 14 LINES", d.tell(lines + "up 2"), 1);
        Desk.due("5 a LINE too many", d.wrongByte(lines + "up 3; up 4"), 71);
        Desk.due("5 a LINE too many, or more", d.wrongByte(lines + "up 3; "), 71);
        String deeds = "thread " + "out,".repeat(23);
        Desk.due("4 24 DEEDS", d.tell(deeds + "out"), 2);
        Desk.due("5 a DEED too many", d.wrongByte(deeds + "out , out"), 7 + 92 + 6);
        Desk.due("5 a DEED too many, or more", d.wrongByte(deeds + "out ,"), 7 + 92 + 5);
        Desk.due("4 4 THREADS", d.tell("thread out; thread out; thread out"), 3);
        Desk.due("5 a THREAD too many", d.wrongByte("up 5; thread out"), 6);
        Desk.due("5 in one text", new Desk().wrongByte("thread out;".repeat(4) + "thread out"), 44);
    }

    private static void nothingStays() {
        Desk d = new Desk("thread out");
        Desk.due("4 wrong", d.wrongByte("older; need 1; trust 2; word 4 5; lock 0 at 3; thread out; x"), 59);
        Desk.due("4 nothing stays", d.x.term(8) + d.x.word(4), 0);
        Desk.due("4 nothing stays", d.x.term(4) + d.x.lock(0, 2) + d.x.lock(0, 0), 32);
        Desk.due("4 nothing stays", d.x.count(0) + d.x.count(1), 2);
        Desk.due("4 a THREAD behind a wrong text", d.tell("thread work 2, work 3"), 2);
        Desk.due("4 its DEEDS alone", d.x.thread(1, 8), 2);
    }

    private static void twelveTexts() {
        Desk d = new Desk();
        for (int k = 1; k <= 12; k++) {
            Desk.due("4 texts", d.tell("need " + k), k);
        }
        d.feed("need 0");
        Desk.throwsDue("4 a 13th text", UnsupportedOperationException.class, d.x::machine);
        Desk.due("4 not told", d.x.term(4), 12);
        Desk.due("4 the TAPE is used up", d.x.end(1), false);
        Desk.due("4 wrong is told first", d.wrongByte("need 17"), 5);
        d.feed("need 0");
        Desk.throwsDue("4 a 13th text", UnsupportedOperationException.class, d.x::machine);
        Desk.due("5 that one was right", d.x.fault(), -1);
        Desk.due("count 1", d.x.count(1), 12);
    }

    private static void terms() {
        Desk d = new Desk();
        Desk.throwsDue("13 term(-1)", NoSuchElementException.class, () -> d.x.term(-1));
        Desk.throwsDue("13 term(9)", NoSuchElementException.class, () -> d.x.term(9));
    }

    private static void deeds() {
        Desk d = new Desk("thread take 3, drop 1, get 31, put 30, set 999, plus 998, work 9, out");
        int[] numbers = {3, 1, 31, 30, 999, 998, 9, 0};
        for (int k = 0; k < 8; k++) {
            Desk.due("14 kind", d.x.deed(0, k, 0), k);
            Desk.due("14 number", d.x.deed(0, k, 1), numbers[k]);
        }
        Desk.due("14 no place", d.x.deed(0, 8, 0), -1);
        Desk.due("14 no place", d.x.deed(0, -1, 1), -1);
        Desk.throwsDue("14 no thread", IndexOutOfBoundsException.class, () -> d.x.deed(1, 0, 2));
        Desk.throwsDue("14 no thread", IndexOutOfBoundsException.class, () -> d.x.deed(-1, 0, 0));
        Desk.throwsDue("14 what 2", NoSuchElementException.class, () -> d.x.deed(0, 99, 2));
        Desk.throwsDue("14 what -1", NoSuchElementException.class, () -> d.x.deed(0, 0, -1));
    }

    private static void writing() {
        Desk d = new Desk("thread take0,drop 01,get 10 , put 31, set 999, plus 90, work 9",
                "thread out, out, plus 100", "thread out");
        Desk.due("32 ahead of any", d.x.octet(0), -1);
        String first = "thread take 0, drop 1, get 10, put 31, set 999, plus 90, work 9";
        Desk.due("31 length", d.x.text(0), first.length());
        Desk.due("32 bytes", d.written(first.length()), first);
        Desk.due("32 behind", d.x.octet(first.length()), -1);
        Desk.due("32 ahead", d.x.octet(-1), -1);
        Desk.throwsDue("31 no thread", IndexOutOfBoundsException.class, () -> d.x.text(3));
        Desk.throwsDue("31 no thread", IndexOutOfBoundsException.class, () -> d.x.text(-1));
        Desk.due("32 stays", d.x.octet(first.length() - 1), (int) '9');
        // A blank stands behind each word, so behind out too.
        String second = "thread out , out , plus 100";
        Desk.due("31 length", d.x.text(1), second.length());
        Desk.due("32 bytes", d.written(second.length()), second);
        Desk.due("32 the shorter one alone", d.x.octet(second.length()), -1);
        Desk.due("31 length", d.x.text(2), 11);
        Desk.due("31 as it may be told", new Desk(second).x.thread(0, 8), 3);
    }
}
