/** Promises 19 to 24: what would be, the mean and the digest. */
public final class WouldBeTest {
    private WouldBeTest() {
    }

    public static void main(String[] args) {
        until();
        untilWithMending();
        foresee();
        advise();
        adviseWhateverOrdersSay();
        adviseCountsBehindTheDays();
        widen();
        nothingIsChanged();
        mean();
        digest();
        Checks.end("WouldBeTest");
    }

    private static void until() {
        String road = "stretch a miles 3 soft 1; traffic t weight # wheels 16 from 0 to 1 every 1; "
                + "traffic u weight 60 wheels 16 from 2 to 2 every 30;";
        TollTrustees x = Checks.taught(road.replace("#", "40"));
        Checks.due("2 a day", 50, () -> x.until(0));
        Checks.due("2 a day", 50, () -> x.until(1));
        Checks.due("3 in 30 days", -1, () -> x.until(2));
        x.pass(49);
        Checks.due("behind 49 days", 1, () -> x.until(0));
        x.pass(1);
        Checks.due("now", 0, () -> x.until(0));
        TollTrustees two = Checks.taught(road.replace("#", "16").replace("every 1;", "every 2;"));
        Checks.due("1 in 2 days breaks it on day 198", 199, () -> two.until(0));
        two.setWheels(0, 8);
        Checks.due("2 in 2 days", 99, () -> two.until(0));
        Checks.due("at the most days", 200, () -> wornSevenTimes(4).until(0));
        Checks.due("a day later", -1, () -> wornSevenTimes(3).until(0));
        Checks.dueOutside("until(3)", x, () -> x.until(3));
        Checks.dueOutside("until(-1)", x, () -> x.until(-1));
        TollTrustees none = new TollTrustees();
        Checks.dueOutside("until without a road", none, () -> none.until(0));
    }

    /** A mile of 100 that is worn by 15 on the day 29 and on every 29th behind it, from so many days on. */
    private static TollTrustees wornSevenTimes(int days) {
        TollTrustees x = Checks.taught("stretch a miles 1 soft 1; traffic t weight 15 wheels 1 from 0 to 0 every 29;");
        x.pass(days);
        x.mend(0, 4);
        return x;
    }

    private static void untilWithMending() {
        TollTrustees x = Checks.taught("stretch a miles 1 soft 9; traffic t weight 60 wheels 1 from 0 to 0 every 1; "
                + "mend a with 1;");
        Checks.due("broken within each day, mended at its end", -1, () -> x.until(0));
    }

    private static void foresee() {
        TollTrustees x = Checks.taught("stretch a miles 2 soft 9; gate g at 0 toll 7; "
                + "traffic t weight 60 wheels 6 from 0 to 1 every 1; farm g for 9 when day = 1; "
                + "mend a with 3 when day = 2;");
        // day 0: 10, 10 and 7 coins; day 1: broken, rent of 9; day 2: turned back, 3 coins: 8, 4; day 3: broken again
        dueForeseen(x, 1, 207, 20, 0, 7, 0, 0);
        dueForeseen(x, 2, 216, 0, 2, 14, -2, 0);
        dueForeseen(x, 3, 213, 12, 0, 14, -2, 3);
        dueForeseen(x, 4, 220, 0, 2, 21, -2, 3);
        dueForeseen(x, 120, 220, 0, 2, 21, -2, 3);
        Checks.dueIllegal("foresee(0, 1)", x, () -> x.foresee(0, 1));
        Checks.dueIllegal("foresee(121, 1)", x, () -> x.foresee(121, 1));
        Checks.dueIllegal("foresee(0, 0)", x, () -> x.foresee(0, 0));
        Checks.dueIllegal("foresee(121, 12)", x, () -> x.foresee(121, 12));
        for (int what : new int[] {-1, 0, 2, 3, 4, 5, 6, 12, 13}) {
            Checks.dueOutside("foresee(1, " + what + ")", x, () -> x.foresee(1, what));
        }
        TollTrustees none = new TollTrustees();
        Checks.due("foresee without a road", 200, () -> none.foresee(120, 1));
    }

    private static void dueForeseen(TollTrustees x, int days, int coins, int... from7) {
        Checks.due("foresee(" + days + ", 1)", coins, () -> x.foresee(days, 1));
        for (int i = 0; i < from7.length; i++) {
            int what = 7 + i;
            Checks.due("foresee(" + days + ", " + what + ")", from7[i], () -> x.foresee(days, what));
        }
    }

    private static final String GATES = "stretch a miles 3 soft 0; gate g at 0 toll 10; gate h at 1 toll 4; "
            + "gate i at 2 toll 4; traffic t weight 1 wheels 6 from 0 to 2 every 1; ";

    private static void advise() {
        TollTrustees x = Checks.taught(GATES);
        Checks.due("a rent of less than each takes", -1, () -> x.advise(3, 5));
        Checks.due("a rent of as much", -1, () -> x.advise(4, 5));
        Checks.due("the first of two", 1, () -> x.advise(5, 5));
        Checks.due("a greater rent", 1, () -> x.advise(999, 90));
        x.setToll(2, 3);
        Checks.due("the one that takes least", 2, () -> x.advise(5, 1));
        Checks.dueIllegal("advise(-1, 1)", x, () -> x.advise(-1, 1));
        Checks.dueIllegal("advise(1000, 1)", x, () -> x.advise(1000, 1));
        Checks.dueIllegal("advise(0, 0)", x, () -> x.advise(0, 0));
        Checks.dueIllegal("advise(0, 91)", x, () -> x.advise(0, 91));
        Checks.due("a rent of 0", -1, () -> x.advise(0, 1));
        TollTrustees none = new TollTrustees();
        Checks.due("advise without gates", -1, () -> none.advise(999, 90));
    }

    private static void adviseWhateverOrdersSay() {
        TollTrustees never = Checks.taught(GATES + "farm h for 50 when 1 = 2;");
        Checks.due("one that orders do not farm out", 1, () -> never.advise(5, 5));
        TollTrustees cheap = Checks.taught(GATES + "farm g for 1 when 1 = 1;");
        Checks.due("one that orders farm out for less", 0, () -> cheap.advise(5, 5));
        TollTrustees dear = Checks.taught(GATES + "farm h for 50 when 1 = 1; farm i for 2 when 1 = 1;");
        Checks.due("one that orders farm out for more", 2, () -> dear.advise(6, 5));
        TollTrustees linked = Checks.taught(GATES + "farm h for 50 when farmed g; farm g for 100 when farmed i;");
        // with g h goes for 50 as well; with i g goes for 100 from the second day on, and h with it
        Checks.due("orders for other gates hold", 0, () -> linked.advise(0, 1));
        Checks.due("farmed from now on", 2, () -> linked.advise(0, 3));
    }

    private static void adviseCountsBehindTheDays() {
        TollTrustees x = Checks.taught("stretch a miles 1 soft 0; gate g at 0 toll 1; gate h at 0 toll 1; "
                + "farm h for 999 when farmed h or day < 1;");
        for (int i = 0; i < 10; i++) {
            x.grant(9999);
        }
        x.grant(9);
        Checks.due("the most coins is what all have", -1, () -> x.advise(999, 90));
        Checks.due("grant", 99999, () -> x.grant(9999));
        Checks.due("no gate gives more than the most", -1, () -> x.advise(999, 1));
    }

    private static void widen() {
        TollTrustees x = Checks.taught("stretch a miles 4 soft 2; traffic t weight 8 wheels 8 from 0 to 0 every 1; "
                + "traffic u weight 32 wheels 4 from 1 to 2 every 2; traffic v weight 32 wheels 4 from 2 to 3 every 2;");
        Checks.due("the first of two", 1, () -> x.widen(1));
        Checks.due("the first of two", 1, () -> x.widen(8));
        x.setWheels(2, 3);
        Checks.due("the narrower one", 2, () -> x.widen(3));
        x.setWheels(1, 16);
        x.setWheels(2, 16);
        Checks.due("the one that is left", 0, () -> x.widen(3));
        x.setWheels(0, 16);
        Checks.due("none that spares more", 0, () -> x.widen(90));
        Checks.dueIllegal("widen(0)", x, () -> x.widen(0));
        Checks.dueIllegal("widen(91)", x, () -> x.widen(91));
        Checks.dueIllegal("widen(-1)", x, () -> x.widen(-1));
        TollTrustees none = Checks.taught("stretch a miles 1 soft 1;");
        Checks.due("widen without traffics", -1, () -> none.widen(1));
        TollTrustees fewerCoins = Checks.taught("stretch a miles 1 soft 9; stretch b miles 1 soft 9; gate g at 0 toll 60; "
                + "traffic t weight 1 wheels 6 from 0 to 0 every 1; traffic u weight 60 wheels 16 from 1 to 1 every 1; "
                + "mend b with coins - 230;");
        Checks.due("half the toll mends less", 1, () -> fewerCoins.widen(1));
    }

    private static void nothingIsChanged() {
        TollTrustees x = Checks.taught(GATES.replace("soft 0", "soft 3") + "farm g for 5 when day > 2; mend a with 2; "
                + "free t at i when passed t > 3;");
        x.pass(4);
        long before = x.digest();
        x.until(2);
        x.foresee(50, 1);
        x.advise(9, 40);
        x.widen(40);
        x.journey(0, 0);
        x.mean();
        Checks.due("all is as before", before, x::digest);
        TollTrustees twin = Checks.taught(GATES.replace("soft 0", "soft 3")
                + "farm g for 5 when day > 2; mend a with 2; free t at i when passed t > 3;");
        twin.pass(4);
        x.pass(9);
        twin.pass(9);
        Checks.due("and goes on as without", twin.digest(), x::digest);
        Checks.due("foreseen is what comes", twin.foresee(20, 1), () -> {
            x.pass(20);
            return x.count(1);
        });
    }

    private static void mean() {
        TollTrustees x = Checks.taught("stretch a miles 3 soft 1; traffic t weight 10 wheels 1 from 0 to 0 every 1;");
        Checks.due("mean()", 100.0, x::mean);
        x.pass(1);
        Checks.due("mean()", 290 / 3.0, x::mean);
        x.pass(9);
        Checks.due("mean()", 200 / 3.0, x::mean);
        TollTrustees none = Checks.taught("");
        Checks.due("mean without miles", 0.0, none::mean);
    }

    private static long digestOf(TollTrustees x) {
        long d = 883;
        for (int what = 0; what <= 12; what++) {
            d = d * 31 + x.count(what);
        }
        for (int mile = 0; mile < x.count(3); mile++) {
            for (int what = 0; what <= 3; what++) {
                d = d * 31 + x.mile(mile, what);
            }
        }
        for (int stretch = 0; stretch < x.count(2); stretch++) {
            for (int what = 0; what <= 5; what++) {
                d = d * 31 + x.stretch(stretch, what);
            }
        }
        for (int gate = 0; gate < x.count(4); gate++) {
            for (int what = 0; what <= 5; what++) {
                d = d * 31 + x.gate(gate, what);
            }
        }
        for (int traffic = 0; traffic < x.count(5); traffic++) {
            for (int what = 0; what <= 7; what++) {
                d = d * 31 + x.traffic(traffic, what);
            }
        }
        return d;
    }

    private static void digest() {
        TollTrustees none = new TollTrustees();
        Checks.due("digest of a new one", digestOf(none), none::digest);
        TollTrustees x = Checks.taught(GATES.replace("soft 0", "soft 7") + "farm g for 50 when day > 2; mend a with 2;");
        Checks.due("digest of a taught one", digestOf(x), x::digest);
        Checks.feed(x, "abc");
        x.pass(20);
        Checks.due("digest behind days", digestOf(x), x::digest);
    }
}
