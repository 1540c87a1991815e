/** The boundary cases that the document names in "2. The road", sentence by sentence. */
final class RoadBounds {
    private static final int MAX = Integer.MAX_VALUE;
    private static final int MIN = Integer.MIN_VALUE;

    private RoadBounds() {
    }

    static void check() {
        conditionAtItsLeast();
        brokenStretch();
        firstCoins();
        allIsNoneAtFirst();
        lossOfAFarmer();
        tollByWheels();
        freeForBoth();
        firstFarmThatHolds();
        notFarmedAsTheListIsRead();
        wearIsCut();
        farmedByNumbers();
        daysOfATraffic();
        waysOfATraffic();
        brokenMileOnTheWay();
        paysAheadOfItsWear();
        gatesOfOneMile();
        farmerOrTrust();
        wearDownToNothing();
        passesThroughItsTo();
        rentAndGainOfADay();
        coinsOfAnOrder();
        leastConditionIsMended();
        mendedToTheMost();
        coinsLeftOver();
        ordersInTheirTurn();
        mostCoinsBehindADay();
        moreCoinsWithinADay();
        worstOfAStretch();
        conditionOfNoMile();
        takenGainedAndPassed();
        farmedInTests();
        comparisons();
        leastAndGreatest();
        notAndOr();
    }

    private static void due(String what, int want, Checks.Call call) {
        Checks.due(what, want, call);
    }

    private static void dueConditions(String when, TollTrustees x, int... due) {
        for (int mile = 0; mile < due.length; mile++) {
            int asked = mile;
            due(when + ", mile(" + mile + ", 1)", due[mile], () -> x.mile(asked, 1));
        }
    }

    private static TollTrustees behindADay(String list) {
        TollTrustees x = Checks.taught(list);
        x.pass(1);
        return x;
    }

    // ---- what there is

    private static void conditionAtItsLeast() {
        Document.says("A mile has a condition, 0 to 100 (100, at first); with 0 it is broken.");
        String list = "stretch a miles 1 soft 1; traffic t weight 60 wheels 1 from 0 to 0 every 30; "
                + "traffic u weight # wheels 1 from 0 to 0 every 30; traffic v weight 1 wheels 16 from 0 to 0 every 30;";
        TollTrustees fresh = Checks.taught(list.replace("#", "1"));
        dueConditions("at first", fresh, 100);
        due("broken miles at first", 0, () -> fresh.count(8));
        for (int weight = 38; weight <= 41; weight++) {
            TollTrustees x = behindADay(list.replace("#", "" + weight));
            String when = "worn by 60 and " + weight;
            boolean broken = weight >= 40;
            dueConditions(when, x, broken ? 0 : 40 - weight);
            due(when + ", broken miles", broken ? 1 : 0, () -> x.count(8));
            due(when + ", broken miles of the stretch", broken ? 1 : 0, () -> x.stretch(0, 4));
            due(when + ", v turned back", broken ? 1 : 0, () -> x.traffic(2, 6));
            due(when + ", v passed", broken ? 0 : 1, () -> x.traffic(2, 5));
            due(when + ", until", broken ? 0 : 30, () -> x.until(0));
        }
    }

    private static void brokenStretch() {
        Document.says("A stretch is broken, if one of its miles is.");
        for (int mile = 0; mile < 3; mile++) {
            TollTrustees x = Checks.taught("stretch b miles 1 soft 0; stretch a miles 3 soft 9; stretch c miles 1 soft 0; "
                    + "gate g at 0 toll 1; gate h at 0 toll 2; gate i at 0 toll 4; "
                    + "traffic t weight 60 wheels 1 from # to # every 30; traffic u weight 1 wheels 6 from 0 to 0 every 1; "
                            .replace("#", "" + (mile + 1))
                    + "free u at g when broken a and 1 = 1; free u at h when broken b; free u at i when broken c;");
            due("no mile is broken", 7, () -> x.journey(1, 0));
            x.pass(1);
            due("broken is mile " + mile + " of a alone", 6, () -> x.journey(1, 0));
            x.mend(1, 1);
            due("mended by a coin", 7, () -> x.journey(1, 0));
        }
    }

    private static void firstCoins() {
        Document.says("The trust has coins, 200 at first.");
        TollTrustees x = new TollTrustees();
        due("coins of a new one", 200, () -> x.count(1));
        due("coins behind grant(1)", 201, () -> x.grant(1));
        due("taught", 0, x::teach);
        due("coins of a new road", 200, () -> x.count(1));
    }

    private static void allIsNoneAtFirst() {
        Document.says("it has taken so much, and its farmer has gained so much (less than 0 for a loss), each 0 at first.");
        TollTrustees x = Checks.taught("stretch a miles 1 soft 0; gate g at 0 toll 60; "
                + "traffic t weight 1 wheels 1 from 0 to 0 every 1; farm g for 999 when day >= 0;");
        due("taken at first", 0, () -> x.gate(0, 2));
        due("gained at first", 0, () -> x.gate(0, 3));
        x.pass(1);
        due("taken", 120, () -> x.gate(0, 2));
        due("gained", 120 - 999, () -> x.gate(0, 3));
    }

    private static void lossOfAFarmer() {
        Document.says("its farmer has gained so much (less than 0 for a loss)");
        for (int rent = 59; rent <= 61; rent++) {
            TollTrustees x = behindADay("stretch a miles 1 soft 0; gate g at 0 toll 60; "
                    + "traffic t weight 1 wheels 6 from 0 to 0 every 1; farm g for " + rent + " when 1 = 1;");
            int gain = 60 - rent;
            due("gain of 60 for " + rent, gain, () -> x.gate(0, 3));
            due("in all", gain, () -> x.count(10));
            due("the trust has the rent", 200 + 60 - gain, () -> x.count(1));
        }
    }

    private static void tollByWheels() {
        Document.says("the toll of the gate, twice as much with wheels of 1 to 5, half (cut) with wheels of 12 to 16.");
        int[] tolls = {0, 1, 2, 3, 7, 59, 60};
        int[] halves = {0, 0, 1, 1, 3, 29, 30};
        for (int i = 0; i < tolls.length; i++) {
            for (int wheels = 1; wheels <= 16; wheels++) {
                int due = wheels <= 5 ? 2 * tolls[i] : wheels <= 11 ? tolls[i] : halves[i];
                String what = "toll of " + tolls[i] + " with wheels of " + wheels;
                TollTrustees x = Checks.taught("stretch a miles 1 soft 0; gate g at 0 toll " + tolls[i]
                        + "; traffic t weight 1 wheels " + wheels + " from 0 to 0 every 1;");
                due(what, due, () -> x.toll(0, 0));
                due(what + ", journey", due, () -> x.journey(0, 0));
                x.pass(1);
                due(what + ", paid", due, () -> x.traffic(0, 7));
                due(what + ", taken", due, () -> x.gate(0, 2));
                due(what + ", coins", 200 + due, () -> x.count(1));
            }
        }
    }

    private static final String TWO_OF_EACH = "stretch a miles 1 soft 0; gate g at 0 toll 1; gate h at 0 toll 2; "
            + "traffic t weight 1 wheels 6 from 0 to 0 every 1; traffic u weight 1 wheels 6 from 0 to 0 every 1; ";

    private static void dueJourneys(String orders, int t, int u) {
        TollTrustees x = Checks.taught(TWO_OF_EACH + orders);
        due("t pays with " + orders, t, () -> x.journey(0, 0));
        due("u pays with " + orders, u, () -> x.journey(1, 0));
    }

    private static void freeForBoth() {
        Document.says("A traffic is free at a gate, if the test of some order of free for both holds as it comes to the gate.");
        dueJourneys("", 3, 3);
        dueJourneys("free t at g when 1 = 1;", 2, 3);
        dueJourneys("free t at h when 1 = 1;", 1, 3);
        dueJourneys("free u at g when 1 = 1;", 3, 2);
        dueJourneys("free u at h when 1 = 1; free t at g when 1 = 2;", 3, 1);
        dueJourneys("free u at h when 1 = 2; free u at h when 1 = 1; free u at h when 1 = 2;", 3, 1);
        dueJourneys("farm g for 1 when 1 = 1; mend a with 1 when 1 = 1;", 3, 3);
        dueJourneys("free t at h when taken g = 1; free u at g when taken h = 0;", 1, 2);
        TollTrustees x = behindADay(TWO_OF_EACH + "free u at g when taken g = 1; free u at h when taken h = 0;");
        due("u comes behind t", 2, () -> x.traffic(1, 7));
    }

    private static void firstFarmThatHolds() {
        Document.says("A gate is farmed on a day for the rent of the first order of farm for it, in the order in which they are "
                + "told, whose test holds as it comes to its turn in step 1; without any it is not.");
        String orders = "farm h for 7 when 1 = 1; farm g for 999 when day = 1; farm g for 0 when day = 1 or day = 2; "
                + "farm g for 5 when day = 2 or day = 3;";
        TollTrustees x = Checks.taught(TWO_OF_EACH + orders);
        int[] rents = {-1, 999, 0, 5, -1};
        for (int day = 0; day < rents.length; day++) {
            x.pass(1);
            due("rent of g on day " + day, rents[day], () -> x.gate(0, 4));
            due("rent of h on day " + day, 7, () -> x.gate(1, 4));
        }
        TollTrustees without = behindADay(TWO_OF_EACH + "free t at g when 1 = 1; mend a with 1 when 1 = 1;");
        due("without any order", -1, () -> without.gate(0, 4));
    }

    private static void notFarmedAsTheListIsRead() {
        Document.says("As the list is read, no gate is farmed.");
        Document.promises(4, "no gate is farmed then.");
        String orders = "farm g for 3 when farmed g or day = 1; free t at g when farmed g; free t at h when not farmed g;";
        TollTrustees x = Checks.taught(TWO_OF_EACH + orders);
        due("rent of a new road", -1, () -> x.gate(0, 4));
        due("journey on a new road", 1, () -> x.journey(0, 0));
        x.pass(1);
        due("rent on day 0", -1, () -> x.gate(0, 4));
        x.pass(1);
        due("rent on day 1", 3, () -> x.gate(0, 4));
        due("journey then", 2, () -> x.journey(0, 0));
        due("taught anew", 0, () -> Checks.teach(x, TWO_OF_EACH + orders));
        due("rent then", -1, () -> x.gate(0, 4));
        due("journey then", 1, () -> x.journey(0, 0));
        x.pass(1);
        due("rent on day 2", -1, () -> x.gate(0, 4));
    }

    private static void wearIsCut() {
        Document.says("Wear of a traffic on a mile: its weight * the soft of the stretch / its wheels (cut).");
        int[][] rows = {{1, 0, 1, 0}, {60, 0, 1, 0}, {1, 1, 1, 1}, {1, 1, 2, 0}, {15, 1, 16, 0}, {16, 1, 16, 1},
            {31, 1, 16, 1}, {32, 1, 16, 2}, {1, 9, 10, 0}, {1, 9, 9, 1}, {1, 9, 8, 1}, {60, 9, 16, 33}, {60, 9, 6, 90},
            {11, 9, 1, 99}, {59, 9, 5, 106}, {50, 2, 1, 100}, {60, 9, 5, 108}, {60, 9, 1, 540}};
        for (int[] row : rows) {
            TollTrustees x = Checks.taught("stretch a miles 1 soft " + row[1] + "; traffic t weight " + row[0] + " wheels "
                    + row[2] + " from 0 to 0 every 1;");
            String what = "wear of " + row[0] + " * " + row[1] + " / " + row[2];
            int wear = Math.min(100, row[3]);
            due(what + ", journey", wear, () -> x.journey(0, 1));
            x.pass(1);
            dueConditions(what, x, 100 - wear);
            due(what + ", worn", wear, () -> x.mile(0, 3));
        }
        TollTrustees two = behindADay("stretch a miles 1 soft 3; stretch b miles 1 soft 5; "
                + "traffic t weight 7 wheels 2 from 1 to 0 every 1;");
        dueConditions("by the soft of each stretch", two, 90, 83);
    }

    // ---- a day

    private static void farmedByNumbers() {
        Document.says("1. It is told for each gate, by numbers, whether it is farmed on this day, and for which rent.");
        TollTrustees x = behindADay(TWO_OF_EACH + "farm h for 2 when farmed g; farm g for 1 when 1 = 1;");
        due("g is told ahead of h", 1, () -> x.gate(0, 4));
        due("h is told behind g", 2, () -> x.gate(1, 4));
        TollTrustees y = behindADay(TWO_OF_EACH + "farm h for 2 when 1 = 1; farm g for 1 when farmed h;");
        due("g is told ahead of h", -1, () -> y.gate(0, 4));
        due("h is told", 2, () -> y.gate(1, 4));
    }

    private static void daysOfATraffic() {
        Document.says("2. Traffics, by numbers, in days that can be divided by their every");
        for (int every : new int[] {1, 2, 7, 29, 30}) {
            TollTrustees x = Checks.taught("stretch a miles 1 soft 0; traffic t weight 1 wheels 1 from 0 to 0 every "
                    + every + ";");
            for (int day = 0; day <= 61; day++) {
                int due = day == 0 || day == every || day > every && day % every == 0 ? 1 : 0;
                due("every " + every + ", passes on day " + day, due, () -> x.pass(1));
            }
        }
        String two = "stretch a miles 1 soft 0; gate g at 0 toll 1; traffic t weight 1 wheels 6 from 0 to 0 every 3; "
                + "traffic u weight 1 wheels 6 from 0 to 0 every 5; free u at g when taken g > 0; free t at g when taken g > 1;";
        TollTrustees x = Checks.taught(two);
        x.pass(1);
        due("t goes ahead of u", 1, () -> x.traffic(0, 7));
        due("u goes behind t", 0, () -> x.traffic(1, 7));
        x.pass(4);
        due("taught on day 5", 0, () -> Checks.teach(x, two));
        due("u alone goes on day 5", 1, () -> x.pass(1));
        due("it is u", 1, () -> x.traffic(1, 5));
    }

    private static void waysOfATraffic() {
        Document.says("one goes mile by mile from its from to its to (either way, both of them as well)");
        for (int from = 0; from < 4; from++) {
            for (int to = 0; to < 4; to++) {
                TollTrustees x = Checks.taught("stretch a miles 2 soft 6; stretch b miles 2 soft 6; "
                        + "gate g at 0 toll 1; gate h at 1 toll 2; gate i at 2 toll 4; gate j at 3 toll 8; "
                        + "traffic t weight 1 wheels 6 from " + from + " to " + to + " every 1;");
                int paid = 0;
                int wear = 0;
                for (int mile = 0; mile < 4; mile++) {
                    boolean isOn = mile >= Math.min(from, to) && mile <= Math.max(from, to);
                    paid += isOn ? 1 << mile : 0;
                    wear += isOn ? 1 : 0;
                    int asked = mile;
                    due("traffics by mile " + mile, isOn ? 1 : 0, () -> x.gate(asked, 5));
                }
                String way = " from " + from + " to " + to;
                due("would pay" + way, paid, () -> x.journey(0, 0));
                due("would wear" + way, wear, () -> x.journey(0, 1));
                due("would turn back" + way, -1, () -> x.journey(0, 2));
                due("passes" + way, 1, () -> x.pass(1));
                due("paid" + way, paid, () -> x.traffic(0, 7));
                due("wore" + way, 400 - wear, () -> x.count(7));
            }
        }
    }

    private static void brokenMileOnTheWay() {
        Document.says("as long as the mile to which it comes is not broken; at a broken one it neither pays nor wears anything, "
                + "turns back, and has not passed.");
        for (int broken = 0; broken < 3; broken++) {
            for (int way = 0; way < 2; way++) {
                String ends = way == 0 ? "from 0 to 2" : "from 2 to 0";
                TollTrustees x = behindADay("stretch a miles 3 soft 6; gate g at 0 toll 1; gate h at 1 toll 2; "
                        + "gate i at 2 toll 4; traffic b weight 60 wheels 1 from # to # every 30; "
                                .replace("#", "" + broken)
                        + "traffic t weight 1 wheels 6 " + ends + " every 1; ");
                String what = ends + " with mile " + broken + " broken";
                int paid = way == 0 ? (1 << broken) - 1 : 7 - ((2 << broken) - 1);
                int worn = way == 0 ? broken : 2 - broken;
                int mile = broken;
                due(what + ", passed", 0, () -> x.traffic(1, 5));
                due(what + ", turned back", 1, () -> x.traffic(1, 6));
                due(what + ", paid", paid, () -> x.traffic(1, 7));
                due(what + ", condition", 200 - worn, () -> x.count(7));
                due(what + ", worn there", 100, () -> x.mile(mile, 3));
                due(what + ", would pay", paid, () -> x.journey(1, 0));
                due(what + ", would wear", worn, () -> x.journey(1, 1));
                due(what + ", would turn back", broken, () -> x.journey(1, 2));
            }
        }
    }

    private static void paysAheadOfItsWear() {
        Document.says("At each mile to which it comes it pays first at the gates that stand there, by numbers, unless it is free: "
                + "to the farmer, if the gate is farmed, otherwise to the trust; then the condition of the mile is less by "
                + "its wear, at least 0.");
        TollTrustees x = behindADay("stretch a miles 2 soft 9; gate g at 0 toll 7; gate h at 1 toll 5; "
                + "traffic t weight 60 wheels 6 from 0 to 1 every 1; free t at g when condition(0) < 100; "
                + "free t at h when condition(0) < 100 and condition(1) = 100;");
        due("paid at g, free at h", 7, () -> x.traffic(0, 7));
        TollTrustees breaking = behindADay("stretch a miles 1 soft 9; gate g at 0 toll 7; "
                + "traffic t weight 60 wheels 1 from 0 to 0 every 1; ");
        due("paid at the mile that it breaks", 14, () -> breaking.traffic(0, 7));
    }

    private static void gatesOfOneMile() {
        Document.says("it pays first at the gates that stand there, by numbers, unless it is free");
        dueJourneys("free t at h when taken g > 0; free t at g when taken h > 0;", 1, 3);
        dueJourneys("free t at g when coins > 200; free t at h when coins > 200;", 1, 3);
        TollTrustees x = Checks.taught("stretch a miles 2 soft 0; gate g at 1 toll 1; gate h at 0 toll 2; gate i at 1 toll 4; "
                + "gate j at 1 toll 8; gate k at 0 toll 16; traffic t weight 1 wheels 6 from 0 to 1 every 1;"
                + "free t at g when coins = 218; free t at j when coins = 222;");
        due("mile by mile, gate by gate", 2 + 16 + 4, () -> x.journey(0, 0));
    }

    private static void farmerOrTrust() {
        Document.says("to the farmer, if the gate is farmed, otherwise to the trust");
        for (int rent = -1; rent <= 1; rent++) {
            TollTrustees x = behindADay("stretch a miles 1 soft 0; gate g at 0 toll 50; "
                    + "traffic t weight 1 wheels 6 from 0 to 0 every 1; "
                    + (rent < 0 ? "" : "farm g for " + rent + " when 1 = 1;"));
            due("coins with a rent of " + rent, rent < 0 ? 250 : 200 + rent, () -> x.count(1));
            due("gain with a rent of " + rent, rent < 0 ? 0 : 50 - rent, () -> x.gate(0, 3));
            due("taken with a rent of " + rent, 50, () -> x.gate(0, 2));
            due("paid with a rent of " + rent, 50, () -> x.traffic(0, 7));
            due("told with a rent of " + rent, rent, () -> x.gate(0, 4));
        }
    }

    private static void wearDownToNothing() {
        Document.says("then the condition of the mile is less by its wear, at least 0.");
        Document.promises(7, "3 by how much its condition got less by traffics in all (no more each time than it had)");
        for (int weight = 49; weight <= 51; weight++) {
            TollTrustees x = behindADay("stretch a miles 1 soft 2; traffic t weight " + weight
                    + " wheels 1 from 0 to 0 every 1;");
            dueConditions("worn by " + 2 * weight, x, Math.max(0, 100 - 2 * weight));
            due("worn by " + 2 * weight, Math.min(100, 2 * weight), () -> x.mile(0, 3));
            x.mend(0, 1);
            x.pass(1);
            due("worn again by " + 2 * weight, 104, () -> x.mile(0, 3));
        }
    }

    private static void passesThroughItsTo() {
        Document.says("If it comes through its to, it has passed once more.");
        TollTrustees x = Checks.taught("stretch a miles 2 soft 9; traffic t weight 60 wheels 1 from 0 to 1 every 1;");
        due("it breaks both, and passes", 1, () -> x.pass(1));
        due("passed", 1, () -> x.traffic(0, 5));
        due("turned back", 0, () -> x.traffic(0, 6));
        due("broken", 2, () -> x.count(8));
        due("then it turns back", 0, () -> x.pass(120));
        due("passed", 1, () -> x.traffic(0, 5));
        due("turned back", 120, () -> x.traffic(0, 6));
    }

    private static void rentAndGainOfADay() {
        Document.says("3. Each gate that is farmed on this day: its farmer pays the rent to the trust. What the farmer took, "
                + "less the rent, is the gain of the day, added to what was gained so far.");
        TollTrustees x = Checks.taught("stretch a miles 1 soft 0; gate g at 0 toll 10; "
                + "traffic t weight 1 wheels 6 from 0 to 0 every 2; farm g for 3 when day < 3;"
                + "mend a with 0; free t at g when gain g > 0 and day = 0;");
        int[] gains = {7, 4, 11, 11, 11};
        int[] coins = {203, 206, 209, 209, 219};
        for (int day = 0; day < gains.length; day++) {
            x.pass(1);
            due("gained behind day " + day, gains[day], () -> x.gate(0, 3));
            due("coins behind day " + day, coins[day], () -> x.count(1));
        }
    }

    private static void coinsOfAnOrder() {
        Document.says("with as many coins as the sum tells, held at 0 and at what the trust has");
        String list = "stretch a miles 9 soft 9; traffic t weight 60 wheels 1 from 0 to 8 every 30; mend a with #;";
        int[] sums = {MIN, -999999, -1, 0, 1, 2, 199, 200, 201, 999999, MAX};
        int[] spent = {0, 0, 0, 0, 1, 2, 199, 200, 200, 200, 200};
        for (int i = 0; i < sums.length; i++) {
            TollTrustees x = behindADay(list.replace("#", LanguageBounds.written(sums[i])));
            due("spent with " + sums[i], spent[i], () -> x.stretch(0, 5));
            due("in all with " + sums[i], spent[i], () -> x.count(11));
            due("left with " + sums[i], 200 - spent[i], () -> x.count(1));
            due("condition with " + sums[i], 4 * spent[i], () -> x.count(7));
        }
        TollTrustees poor = behindADay(list.replace("#", "200"));
        poor.pass(1);
        due("with nothing left nothing is spent", 200, () -> poor.count(11));
        due("and nothing is owed", 0, () -> poor.count(1));
    }

    private static void leastConditionIsMended() {
        Document.says("for each coin the mile of the stretch with the least condition, of several that with the smallest number, "
                + "has 4 more condition (at most 100)");
        String list = "stretch z miles 1 soft 9; stretch a miles 3 soft 1; traffic s weight 60 wheels 1 from 0 to 0 every 30; "
                + "traffic t weight 20 wheels 1 from 1 to 3 every 30; traffic u weight 5 wheels 1 from 1 to 1 every 30; "
                + "mend a with #;";
        int[][] conditions = {{0, 75, 80, 80}, {0, 79, 80, 80}, {0, 83, 80, 80}, {0, 83, 84, 80}, {0, 83, 84, 84},
            {0, 87, 84, 84}, {0, 87, 88, 84}};
        for (int coins = 0; coins < conditions.length; coins++) {
            TollTrustees x = behindADay(list.replace("#", "" + coins));
            dueConditions("mended with " + coins, x, conditions[coins]);
        }
    }

    private static void mendedToTheMost() {
        Document.says("has 4 more condition (at most 100)");
        for (int wear = 0; wear <= 9; wear++) {
            String list = "stretch a miles 1 soft 1; traffic t weight " + Math.max(1, wear) + " wheels " + (wear == 0 ? 2 : 1)
                    + " from 0 to 0 every 30; mend a with #;";
            int needed = wear == 0 ? 0 : wear <= 4 ? 1 : wear <= 8 ? 2 : 3;
            TollTrustees x = behindADay(list.replace("#", "1"));
            dueConditions("worn by " + wear + ", a coin", x, Math.min(100, 104 - wear));
            due("worn by " + wear + ", spent of a coin", Math.min(1, needed), () -> x.count(11));
            TollTrustees y = behindADay(list.replace("#", "9"));
            dueConditions("worn by " + wear + ", nine coins", y, 100);
            due("worn by " + wear + ", spent of nine", needed, () -> y.count(11));
            due("worn by " + wear + ", left", 200 - needed, () -> y.count(1));
        }
    }

    private static void coinsLeftOver() {
        Document.says("coins are left over, if all miles of it have 100, and stay with the trust.");
        String list = "stretch a miles 2 soft 9; stretch b miles 1 soft 9; traffic t weight 60 wheels 1 from 0 to 2 every 30; ";
        TollTrustees x = behindADay(list + "mend a with 49; mend b with 100;");
        dueConditions("49 coins", x, 100, 96, 100);
        due("left", 200 - 49 - 25, () -> x.count(1));
        TollTrustees y = behindADay(list + "mend a with 51; mend a with 5; mend b with coins;");
        dueConditions("51 coins", y, 100, 100, 100);
        due("spent for a", 50, () -> y.stretch(0, 5));
        due("spent for b", 25, () -> y.stretch(1, 5));
        due("left", 125, () -> y.count(1));
    }

    private static void ordersInTheirTurn() {
        Document.says("4. Orders of mend, in the order in which they are told, if the test holds as it comes to its turn "
                + "(or there is none)");
        String list = "stretch a miles 2 soft 9; traffic t weight 60 wheels 1 from 0 to 1 every 30; ";
        TollTrustees x = behindADay(list + "mend a with 1 when worst a > 0; mend a with 2; mend a with 4 when worst a = 4; "
                + "mend a with 8 when worst a = 4; mend a with 16 when coins = 194;");
        due("spent", 2 + 4 + 16, () -> x.count(11));
        TollTrustees taken = Checks.taught(list + "gate g at 0 toll 3; farm g for 9 when 1 = 1; "
                + "mend a with 5 when gain g = -3 and coins = 209 and passed t = 1 and day = 0 and farmed g;");
        taken.pass(1);
        due("it comes behind the rents and ahead of the next day", 5, () -> taken.count(11));
    }

    /** A road whose trust has so many coins less than the most. */
    private static TollTrustees rich(String list, int less) {
        TollTrustees x = Checks.taught(list);
        for (int i = 0; i < 9; i++) {
            x.grant(9999);
        }
        due("grant", 99999 - less, () -> x.grant(9808 - less));
        return x;
    }

    private static void mostCoinsBehindADay() {
        Document.says("5. The day is 1 greater. If the trust has more than 99999 coins then, it has 99999");
        String list = "stretch a miles 1 soft 0; gate g at 0 toll #; traffic t weight 1 wheels 6 from 0 to 0 every 1;";
        for (int toll = 0; toll <= 4; toll++) {
            TollTrustees x = rich(list.replace("#", "" + toll), 2);
            x.pass(1);
            due("99997 coins and a toll of " + toll, Math.min(99999, 99997 + toll), () -> x.count(1));
            due("the day", 1, () -> x.count(0));
            due("foreseen for the next day", Math.min(99999, 99997 + 2 * toll), () -> x.foresee(1, 1));
        }
        TollTrustees farmed = rich(list.replace("#", "60") + "farm g for 999 when 1 = 1;", 998);
        due("foreseen with a rent", 99999, () -> farmed.foresee(1, 1));
        farmed.pass(1);
        due("99001 coins and a rent of 999", 99999, () -> farmed.count(1));
    }

    private static void moreCoinsWithinADay() {
        Document.says("(within a day it can have more)");
        TollTrustees x = rich("stretch a miles 1 soft 9; gate g at 0 toll 60; "
                + "traffic t weight 60 wheels 6 from 0 to 0 every 30; mend a with coins - 100040;", 0);
        x.pass(1);
        due("100059 coins, 19 of them spent", 19, () -> x.count(11));
        due("100040 coins, as the day ends", 99999, () -> x.count(1));
        TollTrustees y = rich("stretch a miles 1 soft 9; gate g at 0 toll 5; "
                + "traffic t weight 60 wheels 6 from 0 to 0 every 30; mend a with 7;", 0);
        y.pass(1);
        due("100004 coins, 7 of them spent", 99997, () -> y.count(1));
    }

    // ---- tests and sums

    private static void worstOfAStretch() {
        Document.says("worst the least condition of the miles of a stretch");
        for (int mile = 0; mile < 3; mile++) {
            TollTrustees x = behindADay("stretch b miles 1 soft 1; stretch a miles 3 soft 1; gate g at 0 toll 0; "
                    + "traffic t weight 30 wheels 1 from # to # every 30; traffic u weight 40 wheels 1 from 0 to 0 every 30; "
                            .replace("#", "" + (mile + 1))
                    + "farm g for 5 when worst a = 70 and worst b = 60; farm g for 6 when worst a = 100 and worst b = 100;");
            due("at first", 6, () -> x.gate(0, 4));
            x.pass(1);
            due("worn mile " + mile, 5, () -> x.gate(0, 4));
        }
    }

    private static void conditionOfNoMile() {
        Document.says("condition that of the mile with the number of the sum (0, if there is none)");
        int[] places = {MIN, -999999, -2, -1, 0, 1, 2, 3, 43, 44, 45, 46, 400, 999999, MAX};
        String three = "stretch a miles 1 soft 1; stretch b miles 2 soft 1; ";
        String all = "stretch a miles 9 soft 1; stretch b miles 9 soft 1; stretch c miles 9 soft 1; "
                + "stretch d miles 9 soft 1; stretch e miles 9 soft 1; ";
        String rest = "gate g at 0 toll 1; traffic t weight 1 wheels 6 from 0 to 0 every 1; "
                + "free t at g when condition(#) = 100; free t at g when condition(#) < 0 or condition(#) > 100;";
        for (int place : places) {
            String orders = rest.replace("#", LanguageBounds.written(place));
            TollTrustees x = Checks.taught(three + orders);
            due("condition(" + place + ") of 3 miles", place >= 0 && place < 3 ? 0 : 1, () -> x.journey(0, 0));
            TollTrustees y = Checks.taught(all + orders);
            due("condition(" + place + ") of 45 miles", place >= 0 && place < 45 ? 0 : 1, () -> y.journey(0, 0));
            TollTrustees none = Checks.taught(three + orders.replace("= 100", "= 0"));
            due("condition(" + place + ") = 0 of 3 miles", place >= 0 && place < 3 ? 1 : 0, () -> none.journey(0, 0));
        }
        due("taught a road of 45 miles, then one of 3", 1, () -> {
            TollTrustees x = Checks.taught(all + rest.replace("#", "3"));
            Checks.teach(x, three + rest.replace("#", "3"));
            return x.journey(0, 0);
        });
    }

    private static void takenGainedAndPassed() {
        Document.says("taken what a gate took in all, for the trust or a farmer, gain what the farmers of a gate gained in all, "
                + "passed how often a traffic has passed");
        String road = "stretch a miles 1 soft 0; gate f at 0 toll 0; gate g at 0 toll 5; gate h at 0 toll 3; "
                + "traffic u weight 1 wheels 6 from 0 to 0 every 7; traffic t weight 1 wheels 6 from 0 to 0 every 1; "
                + "farm g for 9 when day = 1; farm f for 1 when ";
        String[] sums = {"taken g", "taken h", "taken f", "gain g", "gain h", "passed t", "passed u"};
        // behind day 0: 10 and 6 for the trust; behind day 1: 5 for a farmer of g, for 9, and 3 for the trust
        int[][] due = {{0, 0, 0, 0, 0, 0, 0}, {10, 6, 0, 0, 0, 1, 1}, {15, 9, 0, -4, 0, 2, 1}};
        for (int i = 0; i < sums.length; i++) {
            TollTrustees x = Checks.taught(road + sums[i] + " = " + due[0][i] + " and day = 0 or "
                    + sums[i] + " = " + due[1][i] + " and day = 1 or " + sums[i] + " = " + due[2][i] + " and day = 2;");
            for (int day = 0; day < due.length; day++) {
                x.pass(1);
                due(sums[i] + " on day " + day, 1, () -> x.gate(0, 4));
            }
        }
    }

    private static void farmedInTests() {
        Document.says("farmed holds, if the gate is farmed (in step 1 on this day for gates that had their turn, on the day before "
                + "for other ones; between days on the latest one)");
        String road = "stretch a miles 1 soft 0; gate g at 0 toll 1; gate h at 0 toll 2; gate i at 0 toll 4; "
                + "traffic t weight 1 wheels 6 from 0 to 0 every 1; farm h for 0 when day = 1; ";
        int[] ofOthers = {-1, 5, -1};
        int[] ofEarlier = {-1, -1, 5};
        TollTrustees x = Checks.taught(road + "farm i for 5 when farmed h; farm g for 5 when farmed h; "
                + "farm h for 5 when farmed h; free t at i when farmed h;");
        for (int day = 0; day < 3; day++) {
            x.pass(1);
            due("i, told behind h, on day " + day, day == 0 ? -1 : 5, () -> x.gate(2, 4));
            due("g, told ahead of h, on day " + day, ofEarlier[day], () -> x.gate(0, 4));
            due("h itself on day " + day, day == 0 ? -1 : day == 1 ? 0 : 5, () -> x.gate(1, 4));
            due("between days behind day " + day, day == 0 ? 7 : 3, () -> x.journey(0, 0));
            due("in step 2 of day " + day, day == 0 ? 7 : 7 + 3 * day, () -> x.traffic(0, 7));
        }
        TollTrustees once = Checks.taught(road + "farm i for 5 when farmed h;");
        for (int day = 0; day < 3; day++) {
            once.pass(1);
            due("i, with h farmed on day 1 alone, on day " + day, ofOthers[day], () -> once.gate(2, 4));
        }
    }

    private static void dueComparison(int left, int right) {
        String[] signs = {"<", ">", "=", "<=", ">="};
        boolean[] hold = {left < right, left > right, left == right, left <= right, left >= right};
        for (int i = 0; i < signs.length; i++) {
            LanguageBounds.dueHolds(LanguageBounds.written(left) + " " + signs[i] + " " + LanguageBounds.written(right),
                    hold[i]);
        }
    }

    private static void comparisons() {
        Document.says("sum ( \"<\" | \">\" | \"=\" | \"<=\" | \">=\" ) sum");
        int[] numbers = {MIN, MIN + 1, -1, 0, 1, 2, MAX - 1, MAX};
        for (int left : numbers) {
            for (int right : numbers) {
                dueComparison(left, right);
            }
        }
    }

    private static void leastAndGreatest() {
        Document.says("( \"min\" | \"max\" ) \"(\" sum \",\" sum \")\"");
        int[] numbers = {MIN, -1, 0, 1, MAX};
        for (int left : numbers) {
            for (int right : numbers) {
                String both = "(" + LanguageBounds.written(left) + ", " + LanguageBounds.written(right) + ") = ";
                int least = left < right ? left : right;
                int greatest = left < right ? right : left;
                LanguageBounds.dueHolds("min" + both + LanguageBounds.written(least), true);
                LanguageBounds.dueHolds("max" + both + LanguageBounds.written(greatest), true);
                LanguageBounds.dueHolds("min" + both + LanguageBounds.written(greatest), left == right);
                LanguageBounds.dueHolds("max" + both + LanguageBounds.written(least), left == right);
            }
        }
    }

    private static void notAndOr() {
        Document.says("and binds more than or, not more than and.");
        String[] signs = {"1 = 2", "1 = 1"};
        for (int all = 0; all < 8; all++) {
            boolean a = (all & 1) != 0;
            boolean b = (all & 2) != 0;
            boolean c = (all & 4) != 0;
            String one = signs[a ? 1 : 0];
            String two = signs[b ? 1 : 0];
            String three = signs[c ? 1 : 0];
            LanguageBounds.dueHolds(one + " or " + two + " and " + three, a || b && c);
            LanguageBounds.dueHolds(one + " and " + two + " or " + three, a && b || c);
            LanguageBounds.dueHolds("[" + one + " or " + two + "] and " + three, (a || b) && c);
            LanguageBounds.dueHolds(one + " and [" + two + " or " + three + "]", a && (b || c));
            LanguageBounds.dueHolds("not " + one + " and " + two + " or " + three, !a && b || c);
            LanguageBounds.dueHolds("not " + one + " or " + two + " and not " + three, !a || b && !c);
            LanguageBounds.dueHolds("not [" + one + " and " + two + "] or not not " + three, !(a && b) || c);
            LanguageBounds.dueHolds("not [" + one + " or " + two + " or " + three + "]", !(a || b || c));
        }
    }
}
