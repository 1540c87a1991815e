/** Promises 14 to 17: what is done by hand. */
public final class HandTest {
    private static final String LIST = "stretch a miles 3 soft 1; stretch b miles 1 soft 9; gate g at 0 toll 9; "
            + "gate h at 1 toll 60; traffic t weight 10 wheels 1 from 0 to 0 every 30; "
            + "traffic u weight 9 wheels 1 from 1 to 1 every 30; ";

    private HandTest() {
    }

    public static void main(String[] args) {
        setToll();
        setWheels();
        mend();
        mendWithFewCoins();
        mendLikeAnOrder();
        grant();
        Checks.end("HandTest");
    }

    private static void setToll() {
        TollTrustees x = Checks.taught(LIST);
        Checks.due("setToll(0, 60)", 9, () -> x.setToll(0, 60));
        Checks.due("setToll(0, 0)", 60, () -> x.setToll(0, 0));
        Checks.due("gate(0, 1)", 0, () -> x.gate(0, 1));
        Checks.due("the other one stays", 60, () -> x.setToll(1, 3));
        Checks.due("the other one's toll", 3, () -> x.gate(1, 1));
        x.pass(1);
        Checks.due("paid by the new toll", 6, () -> x.gate(1, 2));
        Checks.dueOutside("setToll(2, 5)", x, () -> x.setToll(2, 5));
        Checks.dueOutside("setToll(-1, 5)", x, () -> x.setToll(-1, 5));
        Checks.dueOutside("setToll(2, 61)", x, () -> x.setToll(2, 61));
        Checks.dueIllegal("setToll(0, 61)", x, () -> x.setToll(0, 61));
        Checks.dueIllegal("setToll(0, -1)", x, () -> x.setToll(0, -1));
        TollTrustees none = new TollTrustees();
        Checks.dueOutside("setToll without a road", none, () -> none.setToll(0, 0));
    }

    private static void setWheels() {
        TollTrustees x = Checks.taught(LIST);
        Checks.due("setWheels(0, 16)", 1, () -> x.setWheels(0, 16));
        Checks.due("setWheels(0, 2)", 16, () -> x.setWheels(0, 2));
        Checks.due("traffic(0, 1)", 2, () -> x.traffic(0, 1));
        Checks.due("the other one stays", 1, () -> x.traffic(1, 1));
        x.pass(1);
        Checks.due("worn by the new wheels", 95, () -> x.mile(0, 1));
        Checks.dueOutside("setWheels(2, 5)", x, () -> x.setWheels(2, 5));
        Checks.dueOutside("setWheels(-1, 5)", x, () -> x.setWheels(-1, 5));
        Checks.dueOutside("setWheels(2, 17)", x, () -> x.setWheels(2, 17));
        Checks.dueIllegal("setWheels(0, 17)", x, () -> x.setWheels(0, 17));
        Checks.dueIllegal("setWheels(0, 0)", x, () -> x.setWheels(0, 0));
        TollTrustees none = new TollTrustees();
        Checks.dueOutside("setWheels without a road", none, () -> none.setWheels(0, 1));
    }

    private static void dueConditions(String when, TollTrustees x, int... due) {
        for (int mile = 0; mile < due.length; mile++) {
            int asked = mile;
            Checks.due(when + ", mile(" + mile + ", 1)", due[mile], () -> x.mile(asked, 1));
        }
    }

    private static void mend() {
        TollTrustees x = Checks.taught(LIST.replace("toll 9", "toll 0").replace("toll 60", "toll 0"));
        x.pass(1);
        dueConditions("worn", x, 90, 91, 100, 100);
        Checks.due("mend(0, 1)", 1, () -> x.mend(0, 1));
        dueConditions("behind a coin", x, 94, 91, 100, 100);
        Checks.due("mend(0, 2)", 2, () -> x.mend(0, 2));
        dueConditions("behind three coins", x, 98, 95, 100, 100);
        Checks.due("mend(0, 100)", 3, () -> x.mend(0, 100));
        dueConditions("behind six coins", x, 100, 100, 100, 100);
        Checks.due("the rest stays with the trust", 194, () -> x.count(1));
        Checks.due("stretch(0, 5)", 6, () -> x.stretch(0, 5));
        Checks.due("stretch(1, 5)", 0, () -> x.stretch(1, 5));
        Checks.due("count(11)", 6, () -> x.count(11));
        Checks.due("wear stays told", 10, () -> x.mile(0, 3));
        Checks.due("mend(0, 194)", 0, () -> x.mend(0, 194));
        Checks.due("mend(1, 1) of a whole stretch", 0, () -> x.mend(1, 1));
        Checks.dueException("mend(0, 195)", IllegalStateException.class, x, () -> x.mend(0, 195));
        Checks.dueException("mend(0, 999)", IllegalStateException.class, x, () -> x.mend(0, 999));
        Checks.dueIllegal("mend(0, 0)", x, () -> x.mend(0, 0));
        Checks.dueIllegal("mend(0, -5)", x, () -> x.mend(0, -5));
        Checks.dueIllegal("mend(0, 1000)", x, () -> x.mend(0, 1000));
        Checks.dueOutside("mend(2, 0)", x, () -> x.mend(2, 0));
        Checks.dueOutside("mend(2, 1)", x, () -> x.mend(2, 1));
        Checks.dueOutside("mend(-1, 999)", x, () -> x.mend(-1, 999));
        x.grant(9999);
        Checks.due("mend(0, 999)", 0, () -> x.mend(0, 999));
        TollTrustees none = new TollTrustees();
        Checks.dueOutside("mend without a road", none, () -> none.mend(0, 1));
    }

    private static void mendWithFewCoins() {
        TollTrustees x = Checks.taught("stretch a miles 9 soft 9; traffic t weight 60 wheels 1 from 0 to 8 every 30;");
        x.pass(1);
        Checks.due("all broken", 9, () -> x.stretch(0, 4));
        Checks.due("mend(0, 200)", 200, () -> x.mend(0, 200));
        Checks.due("no coins are left", 0, () -> x.count(1));
        dueConditions("evenly", x, 92, 92, 88, 88, 88, 88, 88, 88, 88);
        Checks.dueException("mend(0, 1)", IllegalStateException.class, x, () -> x.mend(0, 1));
    }

    private static void mendLikeAnOrder() {
        TollTrustees x = Checks.taught("stretch a miles 2 soft 9; stretch b miles 2 soft 9; "
                + "traffic t weight 60 wheels 1 from 0 to 3 every 30;");
        x.pass(1);
        Checks.due("mend(1, 4)", 4, () -> x.mend(1, 4));
        dueConditions("the second stretch alone", x, 0, 0, 8, 8);
        Checks.due("worst()", 0, x::worst);
    }

    private static void grant() {
        TollTrustees x = Checks.taught(LIST);
        Checks.dueIllegal("grant(0)", x, () -> x.grant(0));
        Checks.dueIllegal("grant(-1)", x, () -> x.grant(-1));
        Checks.dueIllegal("grant(10000)", x, () -> x.grant(10000));
        Checks.due("grant(1)", 201, () -> x.grant(1));
        for (int i = 1; i <= 9; i++) {
            Checks.due("grant(9999), " + i, 201 + 9999 * i, () -> x.grant(9999));
        }
        Checks.due("grant(9806)", 99998, () -> x.grant(9806));
        Checks.due("grant(1)", 99999, () -> x.grant(1));
        Checks.due("grant(1) of the most", 99999, () -> x.grant(1));
        Checks.due("count(1)", 99999, () -> x.count(1));
    }
}
