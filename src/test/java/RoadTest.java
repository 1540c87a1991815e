/** Promises 7 to 13: what there is. */
public final class RoadTest {
    private static final String LIST = "stretch a miles 3 soft 4; stretch b miles 2 soft 9; "
            + "gate g at 1 toll 7; gate h at 4 toll 10; gate i at 1 toll 5; "
            + "traffic t weight 20 wheels 8 from 0 to 4 every 1; "
            + "traffic u weight 50 wheels 3 from 4 to 1 every 2; "
            + "traffic v weight 10 wheels 12 from 1 to 1 every 1;";

    private RoadTest() {
    }

    public static void main(String[] args) {
        asTold();
        behindDays();
        outside();
        tolls();
        journeyChangesNothing();
        journeyAndFree();
        journeyAndFarmedGates();
        worst();
        Checks.end("RoadTest");
    }

    interface Told {
        int answer(int index, int what);
    }

    private static void dueRow(String call, Told told, int index, int... due) {
        for (int what = 0; what < due.length; what++) {
            int asked = what;
            Checks.due(call + "(" + index + ", " + what + ")", due[what], () -> told.answer(index, asked));
        }
    }

    private static void asTold() {
        TollTrustees x = Checks.taught(LIST);
        dueRow("mile", x::mile, 0, 0, 100, 0, 0);
        dueRow("mile", x::mile, 1, 0, 100, 2, 0);
        dueRow("mile", x::mile, 2, 0, 100, 0, 0);
        dueRow("mile", x::mile, 3, 1, 100, 0, 0);
        dueRow("mile", x::mile, 4, 1, 100, 1, 0);
        dueRow("stretch", x::stretch, 0, 3, 4, 0, 100, 0, 0);
        dueRow("stretch", x::stretch, 1, 2, 9, 3, 100, 0, 0);
        dueRow("gate", x::gate, 0, 1, 7, 0, 0, -1, 3);
        dueRow("gate", x::gate, 1, 4, 10, 0, 0, -1, 2);
        dueRow("gate", x::gate, 2, 1, 5, 0, 0, -1, 3);
        dueRow("traffic", x::traffic, 0, 20, 8, 0, 4, 1, 0, 0, 0);
        dueRow("traffic", x::traffic, 1, 50, 3, 4, 1, 2, 0, 0, 0);
        dueRow("traffic", x::traffic, 2, 10, 12, 1, 1, 1, 0, 0, 0);
        dueRow("journey", x::journey, 0, 22, 74, -1);
        dueRow("journey", x::journey, 1, 44, 332, -1);
        dueRow("journey", x::journey, 2, 5, 3, -1);
    }

    private static void behindDays() {
        TollTrustees x = Checks.taught(LIST);
        Checks.due("pass(1) on day 0", 3, () -> x.pass(1));
        dueRow("mile", x::mile, 0, 0, 90, 0, 10);
        dueRow("mile", x::mile, 1, 0, 21, 2, 79);
        dueRow("mile", x::mile, 2, 0, 24, 0, 76);
        dueRow("mile", x::mile, 3, 1, 0, 0, 100);
        dueRow("mile", x::mile, 4, 1, 0, 1, 100);
        dueRow("stretch", x::stretch, 0, 3, 4, 0, 21, 0, 0);
        dueRow("stretch", x::stretch, 1, 2, 9, 3, 0, 2, 0);
        dueRow("gate", x::gate, 0, 1, 7, 24, 0, -1, 3);
        dueRow("gate", x::gate, 1, 4, 10, 30, 0, -1, 2);
        dueRow("gate", x::gate, 2, 1, 5, 17, 0, -1, 3);
        dueRow("traffic", x::traffic, 0, 20, 8, 0, 4, 1, 1, 0, 22);
        dueRow("traffic", x::traffic, 1, 50, 3, 4, 1, 2, 1, 0, 44);
        dueRow("traffic", x::traffic, 2, 10, 12, 1, 1, 1, 1, 0, 5);
        Checks.due("coins", 271, () -> x.count(1));
        dueRow("journey", x::journey, 0, 12, 30, 3);
        dueRow("journey", x::journey, 1, 0, 0, 4);
        Checks.due("pass(1) on day 1", 1, () -> x.pass(1));
        dueRow("traffic", x::traffic, 0, 20, 8, 0, 4, 1, 1, 1, 34);
        dueRow("traffic", x::traffic, 1, 50, 3, 4, 1, 2, 1, 0, 44);
        Checks.due("journey of what is left", 8, () -> {
            x.setWheels(2, 1);
            return x.journey(2, 1);
        });
        x.setWheels(2, 12);
        Checks.due("pass(1) on day 2", 0, () -> x.pass(1));
        dueRow("mile", x::mile, 1, 0, 0, 2, 100);
        dueRow("traffic", x::traffic, 0, 20, 8, 0, 4, 1, 1, 2, 46);
        dueRow("traffic", x::traffic, 1, 50, 3, 4, 1, 2, 1, 1, 44);
        dueRow("traffic", x::traffic, 2, 10, 12, 1, 1, 1, 2, 1, 10);
        Checks.due("coins spent", 3, () -> x.mend(1, 3));
        dueRow("stretch", x::stretch, 1, 2, 9, 3, 4, 0, 3);
    }

    private static void outside() {
        TollTrustees none = new TollTrustees();
        TollTrustees x = Checks.taught(LIST);
        int[] far = {-1, Integer.MIN_VALUE, Integer.MAX_VALUE};
        dueOutside("mile", none, none::mile, 0, 0);
        dueOutside("stretch", none, none::stretch, 0, 0);
        dueOutside("gate", none, none::gate, 0, 0);
        dueOutside("traffic", none, none::traffic, 0, 0);
        dueOutside("toll", none, none::toll, 0, 0);
        dueOutside("journey", none, none::journey, 0, 0);
        dueOutsides("mile", x, x::mile, 5, 4);
        dueOutsides("stretch", x, x::stretch, 2, 6);
        dueOutsides("gate", x, x::gate, 3, 6);
        dueOutsides("traffic", x, x::traffic, 3, 8);
        dueOutsides("toll", x, x::toll, 3, 3);
        dueOutsides("journey", x, x::journey, 3, 3);
        for (int n : far) {
            dueOutsides("mile", x, x::mile, n, n);
            dueOutsides("stretch", x, x::stretch, n, n);
            dueOutsides("gate", x, x::gate, n, n);
            dueOutsides("traffic", x, x::traffic, n, n);
            dueOutsides("toll", x, x::toll, n, n);
            dueOutsides("journey", x, x::journey, n, n);
        }
    }

    private static void dueOutsides(String call, TollTrustees x, Told told, int index, int what) {
        dueOutside(call, x, told, index, 0);
        dueOutside(call, x, told, 0, what);
        dueOutside(call, x, told, index, what);
    }

    private static void dueOutside(String call, TollTrustees x, Told told, int index, int what) {
        Checks.dueOutside(call + "(" + index + ", " + what + ")", x, () -> told.answer(index, what));
    }

    private static void tolls() {
        TollTrustees x = Checks.taught(LIST);
        for (int wheels = 1; wheels <= 16; wheels++) {
            x.setWheels(0, wheels);
            int due = wheels <= 5 ? 14 : wheels >= 12 ? 3 : 7;
            Checks.due("toll of 7 with wheels of " + wheels, due, () -> x.toll(0, 0));
        }
        Checks.due("toll where it does not come by", 5, () -> x.toll(2, 1));
        TollTrustees free = Checks.taught(LIST + "free t at g when 1 = 1;");
        Checks.due("toll of a free one", 7, () -> free.toll(0, 0));
        free.setToll(0, 60);
        Checks.due("toll of a toll set by hand", 60, () -> free.toll(0, 0));
    }

    private static void journeyChangesNothing() {
        TollTrustees x = Checks.taught(LIST);
        x.pass(2);
        long before = x.digest();
        dueRow("journey on day 2", x::journey, 0, 12, 28, 3);
        Checks.due("all is as before", before, x::digest);
        TollTrustees rare = Checks.taught("stretch a miles 1 soft 1; gate g at 0 toll 8; "
                + "traffic t weight 9 wheels 9 from 0 to 0 every 30;");
        rare.pass(1);
        dueRow("journey on a day without it", rare::journey, 0, 8, 1, -1);
    }

    private static void journeyAndFree() {
        String road = "stretch a miles 3 soft 9; gate g at 0 toll 10; gate h at 1 toll 10; gate i at 2 toll 10; "
                + "gate j at 2 toll 1; traffic t weight 60 wheels 6 from # every 30; ";
        String free = "free t at h when taken g > 5; free t at i when condition(1) < 50; free t at j when coins = 210;";
        TollTrustees up = Checks.taught(road.replace("#", "0 to 2") + free);
        dueRow("journey upwards", up::journey, 0, 10, 270, -1);
        TollTrustees down = Checks.taught(road.replace("#", "2 to 0") + free);
        dueRow("journey downwards", down::journey, 0, 30, 270, -1);
        TollTrustees ahead = Checks.taught(road.replace("#", "2 to 0")
                + "free t at i when condition(2) < 100; free t at j when condition(2) < 100;");
        Checks.due("it pays ahead of its wear", 31, () -> ahead.journey(0, 0));
        TollTrustees two = Checks.taught(road.replace("#", "0 to 2")
                + "free t at g when 1 = 2; free t at h when 1 = 2; free t at g when 2 = 2;");
        Checks.due("some order of several", 21, () -> two.journey(0, 0));
    }

    private static void journeyAndFarmedGates() {
        TollTrustees x = Checks.taught("stretch a miles 2 soft 1; gate g at 0 toll 10; gate h at 1 toll 6; "
                + "traffic t weight 1 wheels 6 from 0 to 1 every 30; "
                + "free t at h when coins > 205 and coins < 215; farm g for 0 when day = 1;");
        Checks.due("not farmed, the trust gets the toll", 10, () -> x.journey(0, 0));
        Checks.due("pass(1)", 1, () -> x.pass(1));
        Checks.due("coins", 210, () -> x.count(1));
        Checks.due("not farmed still", 16, () -> x.journey(0, 0));
        x.pass(1);
        Checks.due("farmed on the latest day", 0, () -> x.gate(0, 4));
        Checks.due("farmed, the farmer gets the toll", 10, () -> x.journey(0, 0));
    }

    private static void worst() {
        TollTrustees x = Checks.taught("stretch a miles 4 soft 1; stretch b miles 1 soft 2; "
                + "traffic t weight 5 wheels 1 from 1 to 2 every 30; traffic u weight 3 wheels 1 from 4 to 4 every 4;");
        Checks.due("all have 100", 0, x::worst);
        x.pass(1);
        Checks.due("the last one", 4, x::worst);
        x.mend(1, 1);
        Checks.due("the smallest number of two", 1, x::worst);
        x.mend(0, 1);
        Checks.due("the other one", 2, x::worst);
    }
}
