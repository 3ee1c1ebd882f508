import java.nio.charset.StandardCharsets;

/** A new object with the means to tell it texts, and to say what is not as due. */
final class Desk {
    private static int wrong;
    private static int looks;
    final ElidedLocks x = new ElidedLocks();

    interface Call {
        void make();
    }

    Desk(String... texts) {
        for (String text : texts) {
            tell(text);
        }
    }

    void feed(String text) {
        byte[] bytes = text.getBytes(StandardCharsets.ISO_8859_1);
        for (int from = 0; from < bytes.length; from += 20) {
            int[] n = new int[5];
            for (int k = 0; k < 20; k++) {
                n[k / 4] = n[k / 4] << 8 | (from + k < bytes.length ? bytes[from + k] & 255 : 0);
            }
            x.feed(n[0], n[1], n[2], n[3], n[4]);
        }
        x.end(bytes.length);
    }

    int tell(String text) {
        feed(text);
        return x.machine();
    }

    /** The first wrong byte of a text that must be wrong; -2 if it was taken. */
    int wrongByte(String text) {
        feed(text);
        try {
            x.machine();
        } catch (IllegalArgumentException e) {
            return x.fault();
        }
        return -2;
    }

    /** The answers of STEPS of these THREADS, as "1 0 -1". */
    String steps(int... threads) {
        StringBuilder all = new StringBuilder();
        for (int t : threads) {
            all.append(all.length() > 0 ? " " : "").append(x.step(t));
        }
        return all.toString();
    }

    /** A row of THE LOG, as "tick thread what more". */
    String row(int ago) {
        return x.log(ago, 0) + " " + x.log(ago, 1) + " " + x.log(ago, 2) + " " + x.log(ago, 3);
    }

    String serial() {
        StringBuilder all = new StringBuilder();
        for (int k = 0; k < 12 && x.serial(k) != ElidedLocks.NONE; k++) {
            all.append(x.serial(k));
        }
        return all.toString();
    }

    String written(int length) {
        StringBuilder all = new StringBuilder();
        for (int k = 0; k < length; k++) {
            all.append((char) x.octet(k));
        }
        return all.toString();
    }

    static void due(String what, Object got, Object want) {
        looks++;
        if (!String.valueOf(got).equals(String.valueOf(want))) {
            wrong++;
            System.out.println(what + " answered '" + got + "', due is '" + want + "'");
        }
    }

    static void throwsDue(String what, Class<? extends RuntimeException> due, Call call) {
        String got = "nothing";
        try {
            call.make();
        } catch (RuntimeException e) {
            got = e.getClass().getSimpleName();
        }
        due(what + " throws", got, due.getSimpleName());
    }

    static void finish() {
        System.out.println(looks + " looks, " + wrong + " not as due");
        if (wrong > 0 || looks == 0) {
            System.exit(1);
        }
    }
}
