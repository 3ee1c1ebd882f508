import java.util.NoSuchElementException;

/** THE MACHINE and its texts at their bounds: promises 1 to 5, 13, 14, 31, 32, sentence by sentence. */
public final class EdgeTextTest {
    /** What stands ahead of a number, what behind it, its least, its most. */
    private static final Object[][] NUMBERS = {
        {"wide ", "", 1, 8}, {"tries ", "", 1, 9}, {"depth ", "", 1, 4}, {"buffer ", "", 1, 8}, {"need ", "", 0, 16},
        {"up ", "", 0, 9}, {"down ", "", 0, 15}, {"heal ", "", 1, 9}, {"trust ", "", 0, 15},
        {"word ", " 5", 0, 31}, {"word 7 ", "", 0, 9999}, {"lock ", " at 1", 0, 3}, {"lock 0 at ", "", 0, 31},
        {"thread take ", "", 0, 3}, {"thread drop ", "", 0, 3}, {"thread get ", "", 0, 31}, {"thread put ", "", 0, 31},
        {"thread set ", "", 0, 999}, {"thread plus ", "", 0, 999}, {"thread work ", "", 1, 9},
    };
    private static final int RIGHT = -2;

    public static void main(String[] args) {
        newObject();
        feedToTheFull();
        feedOrder();
        refusedFeed();
        endBounds();
        endWithin();
        endAtTheFull();
        emptyTexts();
        numberBounds();
        numberDigits();
        numbersMissing();
        trustOfAll();
        names();
        bytesBehindAWord();
        bytesAlone();
        bytesBetween();
        moreMustCome();
        signsOutOfPlace();
        lineCounts();
        threadCounts();
        deedCounts();
        wideAndThreads();
        lockPlaces();
        nothingStays();
        textCounts();
        textsGoneBackFrom();
        faults();
        termBounds();
        deedBounds();
        writtenNumbers();
        writtenLengths();
        octetBounds();
        Desk.finish();
    }

    private static void newObject() {
        ElidedLocks x = new ElidedLocks();
        Class<IndexOutOfBoundsException> index = IndexOutOfBoundsException.class;
        Desk.due("1 no THREADS", x.count(0), 0);
        Desk.throwsDue("1 thread", index, () -> x.thread(0, 0));
        Desk.throwsDue("1 leftOut", index, () -> x.leftOut(0, 0));
        Desk.throwsDue("1 blocks", index, () -> x.blocks(0, 0));
        Desk.throwsDue("1 fell", index, () -> x.fell(0, 0));
        Desk.throwsDue("1 sees", index, () -> x.sees(0, 0));
        Desk.throwsDue("1 deed", index, () -> x.deed(0, 0, 0));
        Desk.throwsDue("1 step", index, () -> x.step(0));
        Desk.throwsDue("1 due", index, () -> x.due(0));
        Desk.throwsDue("1 touches", index, () -> x.touches(0, 0));
        Desk.throwsDue("1 rivals", index, () -> x.rivals(0, 0));
        Desk.throwsDue("1 nest", index, () -> x.nest(0));
        Desk.throwsDue("1 parts", index, () -> x.parts(0));
        Desk.throwsDue("1 text", index, () -> x.text(0));
        Desk.due("1 all together fell never", x.fell(-1, 0) + x.fell(-1, 4), 0);
        Desk.due("1 no TICKS", x.run(100) + " " + x.chance(100), "0 0");
        Desk.due("1 no DRAW", x.seed(1), 1);
        Desk.due("1 bits", x.count(3) + " " + x.count(4) + " " + x.count(6), "0 0 0");
        Desk.due("1 KEPT, OUTPUTS, rows", x.count(5) + " " + x.count(7) + " " + x.count(8), "0 0 0");
        Desk.due("1 ahead of any", x.count(9) + " " + x.fault() + " " + x.octet(0) + " " + x.back(), "-1 -1 -1 false");
        Desk.due("1 none", x.output(0, 0) + " " + x.log(0, 0) + " " + x.serial(0), "-1 -1 -1");
        Desk.due("1 an empty TAPE", x.end(1) + " " + x.end(0), "false true");
    }

    private static void feedToTheFull() {
        for (int length : new int[] {379, 380, 381, 399, 400}) {
            ElidedLocks x = fedTo(length);
            int due = length + 20 <= 400 ? length + 20 : -1;
            Desk.due("2 feed behind " + length, x.feed(0, 0, 0, 0, 0), due);
            int now = due == -1 ? length : due;
            Desk.due("2 behind that it has " + now, x.end(now + 1) + " " + x.end(now), "false true");
        }
    }

    /** Has a TAPE of so many blanks. */
    private static ElidedLocks fedTo(int length) {
        ElidedLocks x = new ElidedLocks();
        int blanks = 0x20202020;
        for (int k = 0; k < 20; k++) {
            x.feed(blanks, blanks, blanks, blanks, blanks);
        }
        x.end(length);
        return x;
    }

    private static void feedOrder() {
        ElidedLocks x = new ElidedLocks();
        // "older;wide 8;need 15": every one of the twenty bytes counts.
        x.feed(0x6f6c6465, 0x723b7769, 0x64652038, 0x3b6e6565, 0x64203135);
        Desk.due("2 of each number the highest first", x.machine(), 1);
        Desk.due("2 all twenty came", x.term(8) + " " + x.term(0) + " " + x.term(4), "1 8 15");
        x.feed(0x20202020, 0x20202020, 0x20202020, 0x20202020, 0x6f6c6465);
        x.feed(0x72202020, 0x20202020, 0x20202020, 0x20202020, 0x202020ff);
        Desk.throwsDue("2 behind the TAPE", IllegalArgumentException.class, x::machine);
        Desk.due("2 the last byte is 255", x.fault(), 39);
        x.feed(0x20202080, 0, 0, 0, 0);
        Desk.throwsDue("2 byte 128", IllegalArgumentException.class, x::machine);
        Desk.due("2 it is the fourth", x.fault(), 3);
        x.feed(Integer.MIN_VALUE, Integer.MAX_VALUE, -1, 0, 1);
        x.end(0);
        Desk.due("2 any numbers may come", x.feed(-1, -1, -1, -1, -1), 20);
    }

    private static void refusedFeed() {
        ElidedLocks x = fedTo(380);
        x.feed(0x20202020, 0x20202020, 0x20202020, 0x2020206f, 0x6c646572);
        Desk.due("2 would be 420", x.feed(-1, -1, -1, -1, -1), -1);
        Desk.due("2 none came: a text of 400 bytes", x.machine() + " " + x.term(8), "1 1");
        x = fedTo(381);
        Desk.due("2 would be 401", x.feed(-1, -1, -1, -1, -1), -1);
        Desk.due("2 none came: a text of 381 bytes", x.machine(), 1);
        Desk.due("2 there is room again", x.feed(0, 0, 0, 0, 0), 20);
    }

    private static void endBounds() {
        Desk d = new Desk();
        d.feed("older ");
        for (int n : new int[] {-1, Integer.MIN_VALUE, 7, 20, 400, Integer.MAX_VALUE}) {
            Desk.due("3 end(" + n + ") of 6", d.x.end(n), false);
            Desk.due("3 nothing happens", Picture.tapeLength(d.x), 6);
        }
        Desk.due("3 as many as it has", d.x.end(6) + " " + Picture.tapeLength(d.x), "true 6");
        Desk.due("3 one fewer", d.x.end(5) + " " + Picture.tapeLength(d.x), "true 5");
        Desk.due("3 its first bytes", d.x.machine() + " " + d.x.term(8), "1 1");
        d.feed("older x");
        Desk.due("3 none", d.x.end(0) + " " + Picture.tapeLength(d.x), "true 0");
        Desk.due("3 an empty text is left", d.x.machine(), 2);
        Desk.due("3 of an empty TAPE", d.x.end(0) + " " + d.x.end(1) + " " + d.x.end(-1), "true false false");
    }

    /** The bytes behind the first n must not count, though they were fed once. */
    private static void endWithin() {
        Object[][] all = {{"older;x", 5, RIGHT}, {"olderx", 5, RIGHT}, {"older", 4, 0}, {"need 15", 6, RIGHT}, {"need 15", 5, 5},
            {"thread out,x", 10, RIGHT}, {"thread out,x", 11, 11}, {"thread take 12", 13, RIGHT}, {"thread", 5, 0},
            {"lock 0 at 1", 9, 9}, {"word 1 5", 6, 6}, {"word 1 5", 7, 7}, {"older; x", 6, 6}, {"xxxx", 0, RIGHT}};
        for (Object[] a : all) {
            Desk d = new Desk();
            d.feed((String) a[0]);
            Desk.due("3", d.x.end((int) a[1]), true);
            int got = RIGHT;
            try {
                d.x.machine();
            } catch (IllegalArgumentException e) {
                got = d.x.fault();
            }
            Desk.due("3 the first " + a[1] + " of " + a[0], got, a[2]);
        }
        Desk d = new Desk();
        d.feed("need 15");
        d.x.end(6);
        d.x.machine();
        Desk.due("3 need 1", d.x.term(4), 1);
    }

    /** Whatever ends with the 400th byte ends there. */
    private static void endAtTheFull() {
        Object[][] all = {{"older", RIGHT}, {"need 1", RIGHT}, {"thread out", RIGHT}, {"thread take 1", RIGHT}, {"lock 1 at 1", RIGHT},
            {"olde", 396}, {"need", 400}, {"older;", 400}, {"thread", 400}, {"thread out,", 400}, {"thread ou", 398},
            {"lock 1 a", 399}, {"need 1 1", 399}, {"word 1 12345", 395}, {";", 399}};
        for (Object[] a : all) {
            String text = (String) a[0];
            Desk.due("4 400 bytes, at their end " + text, told(" ".repeat(400 - text.length()) + text), a[1]);
        }
        Desk.due("5 one word of 400", told("x".repeat(400)), 0);
        Desk.due("5 one number of 395", told("need " + "1".repeat(395)), 5);
    }

    private static void emptyTexts() {
        Desk d = new Desk();
        Desk.due("4 empty", d.x.machine() + " " + d.x.fault(), "1 -1");
        Desk.due("4 one blank", d.tell(" ") + " " + d.x.fault(), "2 -1");
        ElidedLocks x = fedTo(400);
        Desk.due("4 400 blanks", x.machine() + " " + x.fault(), "1 -1");
        Desk.due("4 blanks ahead and behind", d.tell("  older  ") + " " + d.x.term(8), "3 1");
        Desk.due("4 blanks between all", d.tell(" lock  0  at  1  ;  word  2  3  ;  thread  set  4  ,  out  "), 4);
        Desk.due("4 no blanks", d.tell("lock0at3;word2 3;thread set4,out"), 5);
        Desk.due("4 that told", d.x.lock(0, 0) + " " + d.x.word(2) + " " + d.x.count(0), "3 3 2");
    }

    /** Whether a text is wrong, and where: its first wrong byte, or RIGHT. */
    private static int told(String text) {
        return new Desk().wrongByte(text);
    }

    private static void numberBounds() {
        for (Object[] n : NUMBERS) {
            String ahead = (String) n[0];
            String behind = (String) n[1];
            int least = (int) n[2];
            int most = (int) n[3];
            Desk.due("4 " + ahead + "least", told(ahead + least + behind), RIGHT);
            Desk.due("4 " + ahead + "most", told(ahead + most + behind), RIGHT);
            Desk.due("4 " + ahead + "most but one", told(ahead + (most - 1) + behind), RIGHT);
            Desk.due("5 " + ahead + "one beyond", told(ahead + (most + 1) + behind), ahead.length());
            if (least > 0) {
                Desk.due("5 " + ahead + "one below", told(ahead + (least - 1) + behind), ahead.length());
            }
            Desk.due("5 " + ahead + "with a minus", told(ahead + "-1" + behind), ahead.length());
            if (most < 9999) {
                Desk.due("5 " + ahead + "9999", told(ahead + "9999" + behind), ahead.length());
            }
        }
    }

    private static void numberDigits() {
        for (Object[] n : NUMBERS) {
            String ahead = (String) n[0];
            String behind = (String) n[1];
            String one = (int) n[2] > 0 ? "1" : "2";
            for (int digits = 1; digits <= 4; digits++) {
                Desk.due("4 " + ahead + digits + " digits", told(ahead + "0".repeat(digits - 1) + one + behind), RIGHT);
            }
            Desk.due("5 " + ahead + "5 digits", told(ahead + "0000" + one + behind), ahead.length());
            Desk.due("5 " + ahead + "12 digits", told(ahead + "00000000000" + one + behind), ahead.length());
        }
        Desk.due("4 four noughts", new Desk("word 0000 0000; need 0000").x.term(4), 0);
        // 4294967297 is 1 once it has wrapped.
        Desk.due("5 no wrap-around", told("need 4294967297"), 5);
        Desk.due("5 of many digits, behind blanks", told("need   99999999999999999999"), 7);
    }

    private static void numbersMissing() {
        for (Object[] n : NUMBERS) {
            String ahead = (String) n[0];
            String bare = ahead.substring(0, ahead.length() - 1);
            Desk.due("5 " + ahead + "nothing", told(ahead), ahead.length());
            Desk.due("5 " + bare + " nothing, no blank", told(bare), bare.length());
            Desk.due("5 " + ahead + "two blanks", told(ahead + " "), ahead.length() + 1);
            Desk.due("5 " + ahead + "a LINE's end", told(ahead + "; older"), ahead.length());
            Desk.due("5 " + ahead + "a DEED's end", told(ahead + ", out"), ahead.length());
            Desk.due("5 " + ahead + "a word", told(ahead + "older"), ahead.length());
        }
    }

    private static void trustOfAll() {
        for (int trust : new int[] {0, 1, 14, 15}) {
            Desk d = new Desk("trust " + trust);
            for (int l = 0; l < 4; l++) {
                Desk.due("4 trust of all LOCKS", d.x.lock(l, 2), trust);
            }
        }
    }

    private static void names() {
        String[] lines = {"wide 1", "word 1 1", "tries 1", "depth 1", "buffer 1", "need 1", "up 1", "down 1", "heal 1",
            "trust 1", "older", "asker", "lock 1 at 1", "thread out"};
        for (String line : lines) {
            Desk.due("4 " + line, told(line), RIGHT);
            namesLike(line, "");
        }
        String[] deeds = {"take 1", "drop 1", "get 1", "put 1", "set 1", "plus 1", "work 1", "out"};
        for (String deed : deeds) {
            Desk.due("4 " + deed, told("thread " + deed), RIGHT);
            Desk.due("5 a DEED is no LINE", told(deed), 0);
            namesLike(deed, "thread ");
        }
        for (String line : lines) {
            Desk.due("5 a LINE is no DEED", told("thread " + line), 7);
        }
        Desk.due("5 at is no LINE", told("at 1"), 0);
        Desk.due("5 another word for at", told("lock 1 out 1"), 7);
        Desk.due("5 at, a letter more", told("lock 1 att 1"), 7);
        Desk.due("5 at, a letter less", told("lock 1 a 1"), 7);
        Desk.due("5 terms that are told in other ways", told("wide 1; lock 1"), 14);
        Desk.due("5 two words in one", told("older asker") + " " + told("olderasker"), "6 0");
    }

    /** A name with a letter more, one less, a great one, a blank within: each is none. */
    private static void namesLike(String right, String ahead) {
        int end = right.indexOf(' ') < 0 ? right.length() : right.indexOf(' ');
        String name = right.substring(0, end);
        String rest = right.substring(end);
        int at = ahead.length();
        Desk.due("5 a letter more: " + right, told(ahead + name + "s" + rest), at);
        Desk.due("5 a letter ahead: " + right, told(ahead + "a" + right), at);
        Desk.due("5 a letter less: " + right, told(ahead + name.substring(0, end - 1) + rest), at);
        Desk.due("5 its end alone: " + right, told(ahead + right.substring(1)), at);
        Desk.due("5 great letters: " + right, told(ahead + name.toUpperCase() + rest), at);
        Desk.due("5 a blank within: " + right, told(ahead + name.substring(0, 1) + " " + right.substring(1)), at);
    }

    private static void bytesBehindAWord() {
        for (int b = 0; b < 256; b++) {
            int due = b == ' ' ? RIGHT : b == ';' ? 6 : b >= 'a' && b <= 'z' ? 0 : 5;
            Desk.due("5 byte " + b + " behind a word", told("older" + (char) b), due);
        }
    }

    private static void bytesAlone() {
        for (int b = 0; b < 256; b++) {
            Desk.due("5 byte " + b + " alone", told(String.valueOf((char) b)), b == ' ' ? RIGHT : 0);
        }
    }

    private static void bytesBetween() {
        for (int b = 0; b < 256; b++) {
            boolean letter = b >= 'a' && b <= 'z';
            int between = b == ' ' || b == '0' || b == '1' ? RIGHT : letter ? 0 : 4;
            Desk.due("5 byte " + b + " between word and number", told("need" + (char) b + "5"), between);
            boolean digit = b >= '0' && b <= '9';
            int deeds = b == ',' ? RIGHT : b == ' ' || b == ';' ? 14 : digit ? 12 : 13;
            Desk.due("5 byte " + b + " between DEEDS", told("thread take 1" + (char) b + "out"), deeds);
        }
    }

    private static void moreMustCome() {
        for (String text : new String[] {"wide", "word", "word 1", "lock", "lock 1", "lock 1 at", "thread", "thread take",
            "thread out,", "thread take 0,", "older;", "older;asker;", "thread out;", "need 1;"}) {
            Desk.due("5 more must come: " + text, told(text), text.length());
            Desk.due("5 and blanks: " + text, told(text + "   "), text.length() + 3);
        }
    }

    private static void signsOutOfPlace() {
        Desk.due("5 a LINE must stand ahead", told(";") + " " + told("  ; older"), "0 2");
        Desk.due("5 two in a row", told("older;;older") + " " + told("older; ; older"), "6 7");
        Desk.due("5 a comma between LINES", told("older, asker"), 5);
        Desk.due("5 two commas", told("thread out,,out"), 11);
        Desk.due("5 a comma first", told("thread , out"), 7);
        Desk.due("5 a LINE's end behind a comma", told("thread out,; older"), 11);
        Desk.due("5 no comma", told("thread out out") + " " + told("thread take 0 out"), "11 14");
        Desk.due("5 a number behind out", told("thread out 1") + " " + told("older 1"), "11 6");
        Desk.due("5 a number too many", told("need 1 1") + " " + told("word 1 1 1") + " " + told("thread take 1 1"), "7 9 14");
        Desk.due("5 the first of two", told("need 99; wide 99"), 5);
    }

    private static void lineCounts() {
        for (int lines = 1; lines <= 14; lines++) {
            Desk.due("4 " + lines + " LINES", told("up 1" + ";up 1".repeat(lines - 1)), RIGHT);
        }
        String full = "up 1" + ";up 1".repeat(13);
        Desk.due("5 the 15th LINE's first word", told(full + "; up 1"), full.length() + 2);
        Desk.due("5 though it is wrong itself", told(full + ";  up 99"), full.length() + 3);
        Desk.due("5 though it is no word", told(full + ";5"), full.length() + 1);
        Desk.due("5 nothing behind the 14th", told(full + ";"), full.length() + 1);
        Desk.due("5 the 14th is looked at", told(full.substring(0, full.length() - 1) + "99"), full.length() - 1);
        Desk.due("5 behind the 14th", told(full + " x"), full.length() + 1);
        Desk d = new Desk(full);
        Desk.due("4 of each text anew", d.tell(full), 2);
    }

    private static void threadCounts() {
        String four = "thread out; thread out; thread out; thread out";
        Desk.due("4 four THREADS", new Desk(four).x.count(0), 4);
        Desk.due("5 a fifth in one text", told(four + "; thread out"), four.length() + 2);
        Desk.due("5 though its DEEDS are wrong", told(four + "; thread x"), four.length() + 2);
        Desk d = new Desk("thread out; thread out", "thread out");
        Desk.due("5 a fifth in another text", d.wrongByte("thread out; thread out"), 12);
        Desk.due("4 it has not come", d.x.count(0), 3);
        Desk.due("4 the fourth", d.tell("thread out") + " " + d.x.count(0), "3 4");
        Desk.due("5 the fifth", d.wrongByte(" thread out"), 1);
        Desk.due("4 other LINES still", d.tell("up 2"), 4);
        Desk.throwsDue("6 THREAD 4", IndexOutOfBoundsException.class, () -> d.x.thread(4, 0));
        Desk.due("6 THREAD 3", d.x.thread(3, 8), 1);
    }

    private static void deedCounts() {
        for (int deeds = 1; deeds <= 24; deeds++) {
            Desk d = new Desk("thread out" + ",out".repeat(deeds - 1));
            Desk.due("4 DEEDS", d.x.thread(0, 8), deeds);
        }
        String full = "thread out" + ",out".repeat(23);
        Desk.due("5 the 25th DEED's first word", told(full + ", take 0"), full.length() + 2);
        Desk.due("5 though it is wrong itself", told(full + ", x"), full.length() + 2);
        Desk.due("5 nothing behind the 24th", told(full + ","), full.length() + 1);
        Desk.due("5 a PROGRAM of none", told("thread") + " " + told("thread;") + " " + told("thread ,"), "6 6 7");
        Desk.due("4 each THREAD may have 24", new Desk(full, full).x.thread(1, 8), 24);
    }

    private static void wideAndThreads() {
        Desk d = new Desk("wide 8", "wide 1");
        Desk.due("4 without THREADS", d.x.term(0), 1);
        d.x.image();
        Desk.due("4 ahead of a THREAD in its text", d.tell("wide 3; thread out") + " " + d.x.term(0), "3 3");
        Desk.due("5 at that word", d.wrongByte("up 1; wide 3"), 6);
        Desk.due("5 whatever comes behind it", d.wrongByte("wide") + " " + d.wrongByte("wide 9"), "0 0");
        Desk.due("5 behind a THREAD in its text", told("thread out; wide 3"), 12);
        Desk.due("13 it stays", d.x.term(0), 3);
        d.x.back();
        Desk.due("4 without THREADS again", d.tell("wide 8") + " " + d.x.term(0), "3 8");
        Desk.due("4 a wrong text's THREAD is none", d.wrongByte("thread out; x") + " " + d.tell("wide 7"), "12 4");
        // WORD a lies in BLOCK a by WIDE, rounded down.
        for (int wide = 1; wide <= 8; wide++) {
            for (int w = 0; w < 32; w++) {
                Desk e = new Desk("wide " + wide + "; thread get " + w);
                Desk.due("4 BLOCK of " + w + " by " + wide, e.x.touches(0, 0), 1 << w / wide);
            }
        }
    }

    private static void lockPlaces() {
        int[] places = {16, 20, 24, 28};
        for (int l = 0; l < 4; l++) {
            for (int w = 0; w < 32; w++) {
                Desk d = new Desk();
                boolean others = w % 4 == 0 && w >= 16 && w != places[l];
                Desk.due("5 lock " + l + " at " + w, d.wrongByte("lock " + l + " at " + w), others ? 10 : RIGHT);
                Desk.due("12 where it lies", d.x.lock(l, 0), others ? places[l] : w);
            }
        }
        Desk d = new Desk("lock 0 at 0; lock 3 at 31; lock 1 at 16");
        Desk.due("4 places", d.x.lock(0, 0) + " " + d.x.lock(1, 0) + " " + d.x.lock(3, 0), "0 16 31");
        Desk.due("5 its place is another's now", d.wrongByte("lock 0 at 16"), 10);
        Desk.due("5 though the later LINE would leave it", d.wrongByte("lock 0 at 16; lock 1 at 20"), 10);
        Desk.due("4 the place that was left", d.tell("lock 2 at 20") + " " + d.x.lock(2, 0), "2 20");
        Desk.due("4 its own again", d.tell("lock 2 at 0020"), 3);
    }

    private static void nothingStays() {
        String[] lines = {"wide 8", "word 1 9", "tries 9", "depth 4", "buffer 8", "need 16", "up 9", "down 15", "heal 9",
            "trust 15", "older", "lock 3 at 1", "thread out", "word 31 9999"};
        for (String line : lines) {
            Desk d = new Desk("word 1 4");
            String before = Picture.of(d.x);
            Desk.due("5 " + line + "; x", d.wrongByte(line + "; x"), line.length() + 2);
            Desk.due("4 nothing stays of " + line, Picture.of(d.x), before);
            Desk.due("4 the TAPE is used up", Picture.tapeLength(d.x), 0);
        }
        Desk d = new Desk("older");
        d.wrongByte("asker; word 1 5; x");
        Desk.due("4 nor of asker", d.x.term(8), 1);
        // TOLD is not so either: an ORDER goes from 0 on.
        d = new Desk("thread set 1, put 1");
        d.wrongByte("word 2 5; x");
        d.x.run(2);
        Desk.due("4 nor what is TOLD", d.serial(), "00");
    }

    private static void textCounts() {
        Desk d = new Desk();
        for (int k = 1; k <= 11; k++) {
            Desk.due("4 texts", d.tell(k % 2 == 0 ? "" : "word 1 " + k), k);
        }
        Desk.due("4 a wrong one does not count", d.wrongByte("x") + " " + d.x.count(1), "0 11");
        Desk.due("4 the 12th", d.tell("thread out") + " " + d.x.count(1), "12 12");
        String before = Picture.of(d.x);
        for (String text : new String[] {"", " ", "word 1 99; older; thread out"}) {
            d.feed(text);
            Desk.throwsDue("4 the 13th", UnsupportedOperationException.class, d.x::machine);
            Desk.due("4 the TAPE is used up", Picture.tapeLength(d.x), 0);
        }
        Desk.due("4 wrong is told first", d.wrongByte("word 1 99; x"), 11);
        Desk.due("4 the TAPE is used up", Picture.tapeLength(d.x), 0);
        Desk.due("4 nothing else changed", Picture.of(d.x), before);
    }

    private static void textsGoneBackFrom() {
        Desk d = new Desk();
        for (int k = 1; k <= 11; k++) {
            d.tell("");
        }
        d.x.image();
        d.tell("");
        d.feed("");
        Desk.throwsDue("4 there are 12", UnsupportedOperationException.class, d.x::machine);
        d.x.back();
        Desk.due("34 there are 11 again", d.x.count(1) + " " + d.tell(""), "11 12");
    }

    private static void faults() {
        Desk d = new Desk();
        Desk.due("5 ahead of any", d.x.fault(), -1);
        d.feed("x");
        Desk.due("5 it was not read yet", d.x.fault(), -1);
        Desk.throwsDue("4 wrong", IllegalArgumentException.class, d.x::machine);
        Desk.due("5 the first byte", d.x.fault(), 0);
        d.feed("older");
        d.x.image();
        d.x.back();
        Desk.due("5 still of the latest that was read", d.x.fault(), 0);
        d.x.machine();
        Desk.due("5 none of a right one", d.x.fault(), -1);
        Desk.due("5 the text's length", d.wrongByte("older;"), 6);
        d.x.machine();
        Desk.due("5 none of an empty one", d.x.fault(), -1);
        ElidedLocks x = fedTo(380);
        x.feed(0x20202020, 0x20202020, 0x20202020, 0x20202020, 0x20202078);
        Desk.throwsDue("4 wrong", IllegalArgumentException.class, x::machine);
        Desk.due("5 the last byte of 400", x.fault(), 399);
        x = fedTo(380);
        x.feed(0x20202020, 0x20202020, 0x20202020, 0x20206e65, 0x65642020);
        Desk.throwsDue("4 wrong", IllegalArgumentException.class, x::machine);
        Desk.due("5 the length of 400", x.fault(), 400);
    }

    private static void termBounds() {
        Desk d = new Desk();
        for (int what : new int[] {-1, 9, Integer.MIN_VALUE, Integer.MAX_VALUE}) {
            Desk.throwsDue("13 term(" + what + ")", NoSuchElementException.class, () -> d.x.term(what));
        }
        Desk.due("13 the first, the last", d.x.term(0) + " " + d.x.term(8), "2 0");
    }

    private static void deedBounds() {
        Desk d = new Desk("thread plus 998" + ",out".repeat(22) + ",work 9", "thread out");
        Desk.due("14 the first", d.x.deed(0, 0, 0) + " " + d.x.deed(0, 0, 1), "5 998");
        Desk.due("14 the 24th", d.x.deed(0, 23, 0) + " " + d.x.deed(0, 23, 1), "6 9");
        Desk.due("14 out has 0", d.x.deed(0, 22, 0) + " " + d.x.deed(0, 22, 1), "7 0");
        for (int place : new int[] {-1, 24, 25, Integer.MIN_VALUE, Integer.MAX_VALUE}) {
            Desk.due("14 no place " + place, d.x.deed(0, place, 0) + " " + d.x.deed(0, place, 1), "-1 -1");
            Desk.throwsDue("14 what is told first", NoSuchElementException.class, () -> d.x.deed(0, place, 2));
            Desk.throwsDue("14 THREAD is told first", IndexOutOfBoundsException.class, () -> d.x.deed(2, place, 2));
        }
        Desk.due("14 of a PROGRAM of one", d.x.deed(1, 0, 0) + " " + d.x.deed(1, 1, 0), "7 -1");
        d.x.step(1);
        Desk.due("14 of one that is DONE", d.x.deed(1, 0, 0), 7);
    }

    private static void writtenNumbers() {
        for (int number : new int[] {0, 1, 9, 10, 11, 99, 100, 101, 110, 990, 999}) {
            Desk d = new Desk("thread set " + number);
            String due = "thread set " + number;
            Desk.due("31 how many", d.x.text(0), due.length());
            Desk.due("31 " + due, d.written(due.length()), due);
        }
        Desk d = new Desk("thread set 0009, get 01");
        Desk.due("31 no noughts ahead", d.written(d.x.text(0)), "thread set 9, get 1");
    }

    private static void writtenLengths() {
        String longest = "thread plus 999" + ", plus 999".repeat(23);
        Desk d = new Desk(longest, "thread out", "thread out" + ",out".repeat(23));
        Desk.due("31 the longest", d.x.text(0), 245);
        Desk.due("31 as told", d.written(245), longest);
        Desk.due("31 it may be told", told(d.written(245)), RIGHT);
        Desk.due("31 the shortest", d.x.text(1), 11);
        Desk.due("31 one blank behind each word", d.written(11), "thread out ");
        Desk.due("31 it may be told", told(d.written(11)), RIGHT);
        String outs = "thread out " + ", out ".repeat(23);
        Desk.due("31 24 words", d.x.text(2) + d.written(outs.length()), outs.length() + outs);
    }

    private static void octetBounds() {
        Desk d = new Desk("thread take 1; thread out");
        Desk.due("32 ahead of any", d.x.octet(0) + " " + d.x.octet(-1), "-1 -1");
        Desk.due("31", d.x.text(0), 13);
        Desk.due("32 the first, the last", d.x.octet(0) + " " + d.x.octet(12), 't' + 0 + " " + (int) '1');
        for (int k : new int[] {-1, 13, 400, Integer.MIN_VALUE, Integer.MAX_VALUE}) {
            Desk.due("32 octet(" + k + ")", d.x.octet(k), -1);
        }
        Desk.throwsDue("31 no THREAD", IndexOutOfBoundsException.class, () -> d.x.text(2));
        Desk.throwsDue("31 no THREAD", IndexOutOfBoundsException.class, () -> d.x.text(-1));
        Desk.due("32 what was written last stays", d.written(13), "thread take 1");
        d.x.text(1);
        Desk.due("32 the shorter one alone", d.x.octet(10) + " " + d.x.octet(11) + " " + d.x.octet(12), "32 -1 -1");
    }
}
