/** All that the face tells of an object, as one text: two alike pictures mean that nothing has happened between. */
final class Picture {
    private static final int[] SEEN = {0, 1, 2, 3, 16, 31};

    private Picture() {
    }

    /** But for fault() and the TAPE, which some refused calls do change. Some 200 calls for three THREADS. */
    static String of(ElidedLocks x) {
        StringBuilder all = new StringBuilder();
        for (int what = 0; what < 10; what++) {
            all.append(x.count(what)).append(' ');
        }
        for (int w = 0; w < 32; w++) {
            all.append(x.word(w)).append(' ');
        }
        for (int what = 0; what < 9; what++) {
            all.append(x.term(what)).append(' ');
        }
        for (int l = 0; l < 4; l++) {
            for (int what = 0; what < 6; what++) {
                all.append(x.lock(l, what)).append(' ');
            }
        }
        for (int t = 0; t < x.count(0); t++) {
            addThread(x, t, all.append("; "));
        }
        addRows(x, all.append("; "));
        int seed = x.seed(0);
        x.seed(seed);
        return all.append(seed).toString();
    }

    private static void addThread(ElidedLocks x, int t, StringBuilder all) {
        for (int what = 0; what < 10; what++) {
            all.append(x.thread(t, what)).append(' ');
        }
        for (int why = 0; why < 5; why++) {
            all.append(x.fell(t, why)).append(' ');
        }
        for (int w : SEEN) {
            all.append(x.sees(t, w)).append(' ');
        }
        all.append(x.leftOut(t, 0)).append(' ').append(x.leftOut(t, 1)).append(' ');
        all.append(x.blocks(t, 0)).append(' ').append(x.blocks(t, 1)).append(' ');
    }

    private static void addRows(ElidedLocks x, StringBuilder all) {
        for (int k = 0; k < x.count(7); k++) {
            all.append(x.output(k, 0)).append(':').append(x.output(k, 1)).append(' ');
        }
        for (int ago = 0; ago < x.count(8); ago++) {
            for (int what = 0; what < 4; what++) {
                all.append(x.log(ago, what)).append(' ');
            }
        }
        for (int k = 0; x.octet(k) != ElidedLocks.NONE; k++) {
            all.append((char) x.octet(k));
        }
    }

    /** How many bytes the TAPE has; it has them still. Not for one of more than 380. */
    static int tapeLength(ElidedLocks x) {
        int length = x.feed(0, 0, 0, 0, 0) - 20;
        x.end(length);
        return length;
    }
}
