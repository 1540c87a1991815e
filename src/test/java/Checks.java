import java.nio.charset.StandardCharsets;

/** Counts the answers that are not due, and feeds lists to trusts. */
final class Checks {
    private static final int BYTES_OF_A_FEED = 20;
    private static final int MOST_SECONDS = 300;
    private static int checked = 0;
    private static int wrong = 0;

    static {
        endInTime();
    }

    interface Call {
        Object answer();
    }

    private Checks() {
    }

    /** A call that does not end is a wrong answer too: the test then ends by itself. */
    private static void endInTime() {
        Thread watch = new Thread(() -> {
            try {
                Thread.sleep(MOST_SECONDS * 1000L);
                System.out.println("no end behind " + MOST_SECONDS + " seconds");
                Runtime.getRuntime().halt(1);
            } catch (InterruptedException e) {
                Thread.currentThread().interrupt();
            }
        });
        watch.setDaemon(true);
        watch.start();
    }

    /** Checks that a call answers what is due; an exception that is due is given as its class. */
    static void due(String what, Object want, Call call) {
        checked++;
        Object got;
        try {
            got = call.answer();
        } catch (RuntimeException e) {
            got = e.getClass();
        }
        if (!want.equals(got)) {
            wrong++;
            System.out.println(what + " answered " + got + ", due is " + want);
        }
    }

    static void dueException(String what, Class<? extends RuntimeException> want, TollTrustees x, Call call) {
        long before = x.digest();
        due(what, want, call);
        due(what + ": nothing is changed", before, x::digest);
    }

    static void dueOutside(String what, TollTrustees x, Call call) {
        dueException(what, IndexOutOfBoundsException.class, x, call);
    }

    static void dueIllegal(String what, TollTrustees x, Call call) {
        dueException(what, IllegalArgumentException.class, x, call);
    }

    /** Ends the test: with exit code 1, if an answer was not the one that was due. */
    static void end(String name) {
        System.out.println(name + ": " + checked + " answers checked, " + wrong + " wrong");
        if (wrong != 0 || checked == 0) {
            System.exit(1);
        }
    }

    static void feed(TollTrustees x, String text) {
        byte[] bytes = text.getBytes(StandardCharsets.ISO_8859_1);
        int before = x.count(12);
        for (int at = 0; at < bytes.length; at += BYTES_OF_A_FEED) {
            x.feed(four(bytes, at), four(bytes, at + 4), four(bytes, at + 8), four(bytes, at + 12),
                    four(bytes, at + 16));
        }
        x.trim(before + bytes.length);
    }

    private static int four(byte[] bytes, int at) {
        int number = 0;
        for (int i = at; i < at + 4; i++) {
            number = number << 8 | (i < bytes.length ? bytes[i] & 255 : 0);
        }
        return number;
    }

    static int teach(TollTrustees x, String list) {
        x.trim(0);
        feed(x, list);
        return x.teach();
    }

    static TollTrustees taught(String list) {
        TollTrustees x = new TollTrustees();
        due("teach of: " + list, 0, () -> teach(x, list));
        return x;
    }

    /** Checks the error of a list, told as "error@place", or "0" for none. */
    static void dueError(String list, String want) {
        TollTrustees x = new TollTrustees();
        due("the error of: " + list, want, () -> {
            int error = teach(x, list);
            return error == 0 && x.errorAt() == -1 ? "0" : error + "@" + x.errorAt();
        });
    }

    /** Checks the error of a list in which a ^ stands ahead of the token at which it is due. */
    static void dueErrorAtMark(int error, String marked) {
        dueError(marked.replace("^", ""), error + "@" + marked.indexOf('^'));
    }
}
