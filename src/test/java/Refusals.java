/** Checks that a call is refused, and that the object goes on behind it like one that was never asked. */
final class Refusals {
    static final int MAX = Integer.MAX_VALUE;
    static final int MIN = Integer.MIN_VALUE;
    private static final String ROAD = "stretch a miles 2 soft 4; stretch b miles 1 soft 0; gate g at 0 toll 9; "
            + "gate h at 2 toll 60; traffic t weight 9 wheels 6 from 0 to 2 every 1; "
            + "traffic u weight 5 wheels 3 from 2 to 1 every 2; farm g for 4 when day > 1; "
            + "mend a with 1 when worst a < 80; free u at g when passed t > 3; ";

    interface Made {
        TollTrustees anew();
    }

    interface Asked {
        int answer(TollTrustees x);
    }

    interface Row {
        int answer(TollTrustees x, int index, int what);
    }

    private Refusals() {
    }

    /** 3 miles, 2 stretches, 2 gates and 2 traffics behind four days, with an error told and a list on the tape. */
    static TollTrustees made() {
        TollTrustees x = Checks.taught(ROAD);
        x.pass(4);
        Checks.due("an error", 1, () -> Checks.teach(x, "stretch a miles"));
        Checks.feed(x, "stretch c miles 9 soft 2;");
        return x;
    }

    static void due(String what, Class<? extends RuntimeException> want, Asked call) {
        due(what, want, Refusals::made, call);
    }

    static void due(String what, Class<? extends RuntimeException> want, Made made, Asked call) {
        TollTrustees x = made.anew();
        TollTrustees twin = made.anew();
        Checks.due(what, want, () -> call.answer(x));
        Checks.due(what + ": nothing is changed", trace(twin), () -> trace(x));
    }

    static void dueOutside(String what, Asked call) {
        due(what, IndexOutOfBoundsException.class, call);
    }

    static void dueIllegal(String what, Asked call) {
        due(what, IllegalArgumentException.class, call);
    }

    /** Checks what a call of an index and a what answers for and refuses: a row each, and so many whats. */
    static void dueRows(String call, Row row, int rows, int whats) {
        TollTrustees x = made();
        for (int index = 0; index < rows; index++) {
            for (int what = 0; what < whats; what++) {
                int asked = index;
                int wanted = what;
                Checks.due(call + "(" + index + ", " + what + ") answers", true,
                        () -> row.answer(x, asked, wanted) > MIN);
            }
        }
        for (int index : new int[] {MIN, -1, 0, rows - 1, rows, rows + 1, MAX}) {
            for (int what : new int[] {MIN, -1, 0, whats - 1, whats, whats + 1, MAX}) {
                if (index < 0 || index >= rows || what < 0 || what >= whats) {
                    dueOutside(call + "(" + index + ", " + what + ")", made -> row.answer(made, index, what));
                }
            }
        }
        for (int what = 0; what < whats; what++) {
            int wanted = what;
            due(call + "(0, " + what + ") without a road", IndexOutOfBoundsException.class, TollTrustees::new,
                    none -> row.answer(none, 0, wanted));
        }
    }

    /** What an object answers, and what it answers behind a few days and behind reading its tape. */
    private static String trace(TollTrustees x) {
        StringBuilder all = new StringBuilder();
        told(x, all);
        all.append(x.pass(3)).append(' ');
        told(x, all);
        all.append(x.teach()).append(' ');
        told(x, all);
        return all.toString();
    }

    private static void told(TollTrustees x, StringBuilder all) {
        all.append(x.digest()).append(' ').append(x.errorAt()).append(' ').append(x.worst()).append(' ');
        for (int traffic = 0; traffic < x.count(5); traffic++) {
            for (int what = 0; what < 3; what++) {
                all.append(x.journey(traffic, what)).append(' ');
            }
        }
        for (int what = 7; what <= 11; what++) {
            all.append(x.foresee(9, what)).append(' ');
        }
        all.append(x.advise(5, 7)).append(' ').append(x.widen(9)).append(' ').append(x.mean()).append('\n');
    }
}
