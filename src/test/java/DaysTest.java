/** Promise 18: days, with their five steps, and what tests and sums tell. */
public final class DaysTest {
    private static final String ROAD = "stretch a miles 2 soft 5; stretch b miles 1 soft 0; "
            + "gate g at 0 toll 10; gate h at 1 toll 4; "
            + "traffic t weight 10 wheels 10 from 0 to 2 every 1; traffic u weight 9 wheels 4 from 2 to 1 every 3; ";

    private DaysTest() {
    }

    public static void main(String[] args) {
        numberOfDays();
        whenTrafficsGo();
        farmedInTurn();
        firstFarmThatHolds();
        rentAndGain();
        payByNumbers();
        breakingAndTurningBack();
        ordersOfMend();
        mendReckonsInTurn();
        mostCoins();
        numbers();
        wrapAround();
        testsOfAList();
        whatTestsTell();
        Checks.end("DaysTest");
    }

    private static void numberOfDays() {
        TollTrustees x = Checks.taught(ROAD);
        Checks.dueIllegal("pass(0)", x, () -> x.pass(0));
        Checks.dueIllegal("pass(-1)", x, () -> x.pass(-1));
        Checks.dueIllegal("pass(121)", x, () -> x.pass(121));
        TollTrustees smooth = Checks.taught(ROAD.replace("soft 5", "soft 0"));
        Checks.due("pass(1)", 2, () -> smooth.pass(1));
        Checks.due("count(0)", 1, () -> smooth.count(0));
        Checks.due("pass(120)", 160, () -> smooth.pass(120));
        Checks.due("count(0)", 121, () -> smooth.count(0));
    }

    private static void whenTrafficsGo() {
        TollTrustees x = Checks.taught("stretch a miles 1 soft 0; traffic t weight 1 wheels 1 from 0 to 0 every 7; "
                + "traffic u weight 1 wheels 1 from 0 to 0 every 30;");
        int[] due = {2, 0, 0, 0, 0, 0, 0, 1, 0};
        for (int day = 0; day < due.length; day++) {
            Checks.due("pass(1) on day " + day, due[day], () -> x.pass(1));
        }
        Checks.due("pass(52), on the days 9 to 60", 7 + 2, () -> x.pass(52));
        Checks.due("traffic(0, 5)", 9, () -> x.traffic(0, 5));
        Checks.due("traffic(1, 5)", 3, () -> x.traffic(1, 5));
    }

    private static void dueRents(String when, TollTrustees x, int... due) {
        x.pass(1);
        for (int gate = 0; gate < due.length; gate++) {
            int asked = gate;
            Checks.due(when + ", gate(" + gate + ", 4)", due[gate], () -> x.gate(asked, 4));
        }
    }

    private static void farmedInTurn() {
        TollTrustees x = Checks.taught(ROAD + "farm g for 1 when not farmed h; farm h for 2 when farmed g;");
        dueRents("day 0", x, 1, 2);
        dueRents("day 1", x, -1, -1);
        dueRents("day 2", x, 1, 2);
        TollTrustees self = Checks.taught(ROAD + "farm h for 7 when not farmed h; farm g for 0 when day > 1;");
        dueRents("day 0", self, -1, 7);
        dueRents("day 1", self, -1, -1);
        dueRents("day 2", self, 0, 7);
        TollTrustees later = Checks.taught(ROAD + "farm h for 3 when not farmed g; farm g for 4 when farmed h;");
        dueRents("day 0", later, -1, 3);
        dueRents("day 1", later, 4, -1);
        dueRents("day 2", later, -1, 3);
    }

    private static void firstFarmThatHolds() {
        TollTrustees x = Checks.taught(ROAD + "farm g for 9 when day = 1; farm h for 8 when day < 5; "
                + "farm g for 3 when day < 2; farm g for 5 when day < 3;");
        dueRents("day 0", x, 3, 8);
        dueRents("day 1", x, 9, 8);
        dueRents("day 2", x, 5, 8);
        dueRents("day 3", x, -1, 8);
    }

    private static void rentAndGain() {
        TollTrustees x = Checks.taught(ROAD.replace("soft 5", "soft 0")
                + "farm g for 3 when day < 2; farm h for 100 when 1 = 1;");
        // u goes on the days 0 and 3 and pays the double of 4 at h
        x.pass(1);
        Checks.due("gain of g", 7, () -> x.gate(0, 3));
        Checks.due("loss of h", 12 - 100, () -> x.gate(1, 3));
        Checks.due("taken by g", 10, () -> x.gate(0, 2));
        Checks.due("taken by h", 12, () -> x.gate(1, 2));
        Checks.due("coins", 200 + 103, () -> x.count(1));
        x.pass(2);
        Checks.due("gain of g, not farmed on day 2", 14, () -> x.gate(0, 3));
        Checks.due("loss of h", 20 - 300, () -> x.gate(1, 3));
        Checks.due("taken by g", 30, () -> x.gate(0, 2));
        Checks.due("coins", 200 + 6 + 10 + 300, () -> x.count(1));
        Checks.due("paid by t", 42, () -> x.traffic(0, 7));
        Checks.due("gains in all", 14 + 20 - 300, () -> x.count(10));
    }

    private static void payByNumbers() {
        String road = "stretch a miles 2 soft 0; gate g at 1 toll 10; gate h at 1 toll 6; gate i at 0 toll 2; "
                + "traffic t weight 1 wheels 6 from 0 to 1 every 1; traffic u weight 1 wheels 6 from 1 to 0 every 1; ";
        TollTrustees x = Checks.taught(road + "free t at h when taken g > 0; free t at g when taken h > 0; "
                + "free t at i when passed u > 0; free u at i when passed t > 0; free u at h when coins > 211;");
        // t: 2 at i, 10 at g, none at h; u: 10 at g, none at h, as coins are 222, none at i
        x.pass(1);
        Checks.due("paid by t", 12, () -> x.traffic(0, 7));
        Checks.due("paid by u", 10, () -> x.traffic(1, 7));
        Checks.due("taken by h", 0, () -> x.gate(1, 2));
        x.pass(1);
        Checks.due("paid by t, free at i then", 22, () -> x.traffic(0, 7));
    }

    private static void breakingAndTurningBack() {
        String road = "stretch a miles 3 soft 5; gate g at 1 toll 7; "
                + "traffic t weight 20 wheels 1 from 0 to 1 every 1; traffic u weight 1 wheels 6 from 2 to 0 every 1; ";
        TollTrustees x = Checks.taught(road);
        // t breaks the miles 0 and 1 as it comes to them, and passes; u turns back at 1
        Checks.due("pass(1)", 1, () -> x.pass(1));
        Checks.due("t passed", 1, () -> x.traffic(0, 5));
        Checks.due("t paid", 14, () -> x.traffic(0, 7));
        Checks.due("u turned back", 1, () -> x.traffic(1, 6));
        Checks.due("u paid nothing at the broken mile", 0, () -> x.traffic(1, 7));
        Checks.due("broken", 2, () -> x.count(8));
        Checks.due("pass(1)", 0, () -> x.pass(1));
        Checks.due("t turned back at its from", 1, () -> x.traffic(0, 6));
        Checks.due("worn no more than it had", 100, () -> x.mile(0, 3));
        TollTrustees mended = Checks.taught(road + "mend a with 1;");
        mended.pass(1);
        Checks.due("the smallest number of the broken ones is mended", 4, () -> mended.mile(0, 1));
        mended.pass(1);
        Checks.due("worn by what it had", 104, () -> mended.mile(0, 3));
        Checks.due("t turns back at mile 1", 1, () -> mended.traffic(0, 6));
    }

    private static void ordersOfMend() {
        String road = "stretch a miles 2 soft 9; stretch b miles 1 soft 9; "
                + "traffic t weight 10 wheels 1 from 0 to 2 every 30; ";
        dueSpent(road + "mend a with 0 - 5;", 0, 0);
        dueSpent(road + "mend a with 5 when 1 = 2;", 0, 0);
        dueSpent(road + "mend a with 5 when 1 = 1; mend a with 2;", 7, 0);
        dueSpent(road + "mend b with 999999; mend a with 999999;", 46, 23);
        dueSpent(road + "mend a with 45; mend b with coins;", 45, 23);
        TollTrustees poor = Checks.taught("stretch a miles 9 soft 9; traffic t weight 60 wheels 1 from 0 to 8 every 30; "
                + "mend a with coins + 1;");
        poor.pass(1);
        Checks.due("held at what the trust has", 200, () -> poor.stretch(0, 5));
        Checks.due("coins", 0, () -> poor.count(1));
    }

    private static void dueSpent(String list, int a, int b) {
        TollTrustees x = Checks.taught(list);
        x.pass(1);
        Checks.due("spent for a: " + list, a, () -> x.stretch(0, 5));
        Checks.due("spent for b: " + list, b, () -> x.stretch(1, 5));
        Checks.due("coins: " + list, 200 - a - b, () -> x.count(1));
        Checks.due("count(11): " + list, a + b, () -> x.count(11));
    }

    private static void mendReckonsInTurn() {
        String road = "stretch a miles 2 soft 9; stretch b miles 1 soft 9; "
                + "traffic t weight 10 wheels 1 from 0 to 2 every 30; ";
        dueSpent(road + "mend a with 3; mend b with 4 when worst a > 14; mend b with 2 when coins = 197;", 3, 2);
        dueSpent(road + "mend a with 1; mend a with condition(0);", 15, 0);
        dueSpent(road + "mend a with 9 when passed t = 1 and day = 0;", 9, 0);
    }

    private static void mostCoins() {
        TollTrustees x = Checks.taught("stretch a miles 1 soft 9; gate g at 0 toll 60; "
                + "traffic t weight 60 wheels 6 from 0 to 0 every 30; mend a with coins - 100040;");
        for (int i = 0; i < 10; i++) {
            x.grant(9999);
        }
        x.grant(9);
        Checks.due("grant to the most", 99999, () -> x.grant(9999));
        x.pass(1);
        Checks.due("within the day it has more", 19, () -> x.stretch(0, 5));
        Checks.due("behind it it has the most", 99999, () -> x.count(1));
        TollTrustees rent = Checks.taught("stretch a miles 1 soft 9; gate g at 0 toll 60; "
                + "farm g for 999 when 1 = 1;");
        rent.pass(120);
        Checks.due("99999 by rents", 99999, () -> rent.count(1));
        Checks.due("the loss goes on", -999 * 120, () -> rent.gate(0, 3));
    }

    /** Checks that a test holds in step 1 of the next day. */
    private static void dueHolds(String test, boolean holds) {
        TollTrustees x = Checks.taught(ROAD + "farm g for 7 when day = 0 and [" + test + "];");
        x.pass(1);
        Checks.due("holds: " + test, holds ? 7 : -1, () -> x.gate(0, 4));
    }

    private static void numbers() {
        dueHolds("7 - 4 - 2 = 1", true);
        dueHolds("7 / 2 * 2 = 6", true);
        dueHolds("2 + 3 * 4 = 14", true);
        dueHolds("(2 + 3) * 4 = 20", true);
        dueHolds("-7 / 2 = -3", true);
        dueHolds("7 / -2 = -3", true);
        dueHolds("5 / 0 = 0", true);
        dueHolds("-2 * 3 = 0 - 6", true);
        dueHolds("- - 3 = 3", true);
        dueHolds("3 - - 3 = 6", true);
        dueHolds("min(3, 2) = 2", true);
        dueHolds("min(-3, 2) = -3", true);
        dueHolds("max(3, 2) = 3", true);
        dueHolds("max(-3, 2) = 2", true);
        dueHolds("max(min(1, 2), min(5, 4)) - 1 = 3", true);
        dueHolds("1 < 1", false);
        dueHolds("1 <= 1", true);
        dueHolds("2 <= 1", false);
        dueHolds("1 > 1", false);
        dueHolds("1 >= 1", true);
        dueHolds("1 >= 2", false);
        dueHolds("1 = 2", false);
        dueHolds("-1 < 1", true);
    }

    private static void wrapAround() {
        String least = "(32768 * 65536)";
        dueHolds(least + " < 0", true);
        dueHolds(least + " / -1 = " + least, true);
        dueHolds("-" + least + " = " + least, true);
        dueHolds(least + " - 1 > 0", true);
        dueHolds(least + " - 1 + 1 = " + least, true);
        dueHolds("65536 * 65536 = 0", true);
        dueHolds("999999 * 999999 = -729379 * 1000 - 967", true);
        dueHolds("min(" + least + ", 0) = " + least, true);
        dueHolds("max(" + least + ", 0) = 0", true);
        dueHolds(least + " < " + least + " - 1", true);
    }

    private static void testsOfAList() {
        String yes = "1 = 1";
        String no = "1 = 2";
        dueHolds(yes + " or " + yes + " and " + no, true);
        dueHolds("[" + yes + " or " + yes + "] and " + no, false);
        dueHolds(no + " and " + yes + " or " + yes, true);
        dueHolds("not " + no + " and " + no, false);
        dueHolds("not [" + no + " and " + no + "]", true);
        dueHolds("not " + yes + " or " + yes, true);
        dueHolds("not not " + yes, true);
        dueHolds("not farmed g and not broken a", true);
        dueHolds("farmed g or broken a", false);
        dueHolds(no + " or " + no + " or " + yes, true);
        dueHolds(yes + " and " + yes + " and " + no, false);
    }

    private static void whatTestsTell() {
        dueHolds("coins = 200 and worst a = 100 and condition(2) = 100 and day = 0", true);
        dueHolds("condition(3) = 0 and condition(-1) = 0 and condition(44) = 0 and condition(45) = 0", true);
        dueHolds("condition(999999) = 0 and condition(32768 * 65536) = 0", true);
        dueHolds("taken g + gain g + passed t = 0", true);
        TollTrustees x = Checks.taught(ROAD + "farm h for 5 when 1 = 1; "
                + "farm g for 7 when day = 2 and taken g = 20 and taken h = 16 and gain h = 6 and passed t = 2 "
                + "and passed u = 1 and coins = 200 + 10 + 10 + 10 and worst a = condition(1) and worst b = 100 "
                + "and condition(1) = 100 - 5 - 11 - 5 and condition(0) = 90 and farmed h;");
        dueRents("day 0", x, -1, 5);
        dueRents("day 1", x, -1, 5);
        dueRents("day 2", x, 7, 5);
        TollTrustees broken = Checks.taught("stretch a miles 2 soft 9; gate g at 0 toll 0; "
                + "traffic t weight 60 wheels 1 from 1 to 1 every 30; farm g for 1 when broken a;");
        dueRents("day 0", broken, -1);
        dueRents("day 1", broken, 1);
    }
}
