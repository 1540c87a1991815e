import java.math.BigInteger;

/** The boundary cases that the promises 1 to 24 of the document name, sentence by sentence. */
final class CallBounds {
    private static final int MAX = Integer.MAX_VALUE;
    private static final int MIN = Integer.MIN_VALUE;
    private static final String WORN = "stretch a miles 3 soft 1; gate g at 0 toll 9; gate h at 1 toll 9; "
            + "traffic t weight 30 wheels 1 from 1 to 2 every 30; traffic u weight 9 wheels 1 from 0 to 0 every 30; ";
    /** 45 miles, 5 gates, 8 traffics and 20 orders. */
    private static final String FULL = full();

    private CallBounds() {
    }

    static void check() {
        newObject();
        feed();
        feedBeyondTheMost();
        trim();
        teach();
        teachInThePlaceOfAFullList();
        teachWithAnError();
        errorAt();
        count();
        mile();
        stretch();
        gate();
        traffic();
        toll();
        journey();
        journeyChangesNothing();
        allThatIsTold();
        lastOfAll();
        worst();
        setToll();
        setWheels();
        mend();
        mendWithFewCoins();
        grant();
        pass();
        until();
        foresee();
        adviseRefuses();
        advise();
        widen();
        mean();
        digest();
        severalExceptions();
        mostCalls();
    }

    private static void due(String what, int want, Checks.Call call) {
        Checks.due(what, want, call);
    }

    private static String full() {
        StringBuilder list = new StringBuilder();
        for (int i = 0; i < 5; i++) {
            list.append("stretch s").append(i).append(" miles 9 soft 9;gate g").append(i).append(" at ").append(9 * i + 8)
                    .append(" toll 60;");
        }
        for (int i = 0; i < 8; i++) {
            list.append("traffic t").append(i).append(" weight 60 wheels 16 from 0 to 44 every 1;");
        }
        for (int i = 0; i < 5; i++) {
            list.append("free t").append(i).append(" at g").append(i).append(" when day=1;farm g").append(i)
                    .append(" for 999 when day>2;mend s").append(i).append(" with 99;mend s").append(i).append(" with 9;");
        }
        return list.toString();
    }

    // ---- the language

    private static void newObject() {
        Document.promises(1, "Creates a trust without a road, on the day 0.");
        TollTrustees x = new TollTrustees();
        for (int what = 0; what <= 12; what++) {
            int asked = what;
            due("new, count(" + what + ")", what == 1 ? 200 : 0, () -> x.count(asked));
        }
        due("new, errorAt()", -1, x::errorAt);
        due("new, worst()", -1, x::worst);
        due("new, advise(0, 1)", -1, () -> x.advise(0, 1));
        due("new, widen(1)", -1, () -> x.widen(1));
        due("new, foresee(120, 1)", 200, () -> x.foresee(120, 1));
        due("new, foresee(120, 7)", 0, () -> x.foresee(120, 7));
        due("new, pass(1)", 0, () -> x.pass(1));
        due("behind it, count(0)", 1, () -> x.count(0));
    }

    private static void feed() {
        Document.promises(2, "Appends twenty bytes to the tape: the four bytes of each number, the highest one first.");
        Document.promises(2, "Returns the number of bytes of the tape.");
        int[] signs = {0x21, 0x80, 0xff, 0x00, 0x7f};
        for (int place = 0; place < 20; place++) {
            for (int sign : signs) {
                TollTrustees x = new TollTrustees();
                int[] numbers = {0x20202020, 0x20202020, 0x20202020, 0x20202020, 0x20202020};
                int shift = 24 - 8 * (place % 4);
                numbers[place / 4] = numbers[place / 4] & ~(255 << shift) | sign << shift;
                due("feed", 20, () -> x.feed(0x20202020, 0x20202020, 0x0a0a0a0a, 0x20202020, 0x20202020));
                due("feed", 40, () -> x.feed(numbers[0], numbers[1], numbers[2], numbers[3], numbers[4]));
                due("a wrong byte is read", 1, x::teach);
                due("byte " + place, 20 + place, x::errorAt);
            }
        }
        TollTrustees x = new TollTrustees();
        due("feed", 20, () -> x.feed(MIN, MAX, -1, 0, 1));
        due("trim", 7, () -> x.trim(7));
        due("feed behind 7 bytes", 27, () -> x.feed(0, 0, 0, 0, 0));
        TollTrustees letters = new TollTrustees();
        letters.feed(0x73747265, 0x74636820, 0x61206d69, 0x6c657320, 0x3920736f);
        letters.feed(0x66742038, 0x3b202020, 0x20202020, 0x20202020, 0x20202020);
        due("a list by its bytes", 0, letters::teach);
        due("its miles", 9, () -> letters.count(3));
        due("its soft", 8, () -> letters.stretch(0, 1));
    }

    private static void feedBeyondTheMost() {
        Document.promises(2, "Throws `IllegalStateException` if there would be more than 2000");
        for (int bytes : new int[] {1979, 1980, 1981, 1999, 2000}) {
            Refusals.Made made = () -> {
                TollTrustees x = Refusals.made();
                x.trim(0);
                Checks.feed(x, "stretch c miles 9 soft 2;" + " ".repeat(1974) + "!");
                x.trim(bytes);
                return x;
            };
            if (bytes + 20 <= 2000) {
                TollTrustees x = made.anew();
                due("feed at " + bytes, bytes + 20, () -> x.feed(MAX, MIN, 0, -1, 1));
                due("bytes then", bytes + 20, () -> x.count(12));
            } else {
                Refusals.due("feed at " + bytes, IllegalStateException.class, made, x -> x.feed(MAX, MIN, 0, -1, 1));
            }
        }
        TollTrustees x = new TollTrustees();
        for (int n = 1; n <= 100; n++) {
            due("feed " + n, 20 * n, () -> x.feed(0x20202020, 0x20202020, 0x20202020, 0x20202020, 0x20202020));
        }
        Checks.due("feed 101", IllegalStateException.class, () -> x.feed(0, 0, 0, 0, 0));
        due("bytes then", 2000, () -> x.count(12));
        due("nothing was appended", 0, x::teach);
    }

    private static void trim() {
        Document.promises(3, "Shortens the tape to its first bytes.");
        Document.promises(3, "Returns n.");
        Document.promises(3, "Throws `IllegalArgumentException` if n is not 0 to the number of bytes of the tape");
        for (int n : new int[] {MIN, -1, 26, 27, 2000, MAX}) {
            Refusals.dueIllegal("trim(" + n + ") of 25 bytes", x -> x.trim(n));
        }
        for (int n : new int[] {-1, 1}) {
            Refusals.due("trim(" + n + ") of an empty tape", IllegalArgumentException.class, TollTrustees::new,
                    x -> x.trim(n));
        }
        Refusals.due("trim(2001) of a full tape", IllegalArgumentException.class, () -> {
            TollTrustees x = new TollTrustees();
            Checks.feed(x, " ".repeat(2000));
            return x;
        }, x -> x.trim(2001));
        int[] kept = {0, 1, 7, 24, 25};
        int[] errorsAt = {-1, 0, 7, 24, -1};
        for (int i = 0; i < kept.length; i++) {
            int n = kept[i];
            TollTrustees x = Refusals.made();
            due("trim(" + n + ") of 25 bytes", n, () -> x.trim(n));
            due("bytes then", n, () -> x.count(12));
            due("teach then", errorsAt[i] < 0 ? 0 : 1, x::teach);
            due("errorAt then", errorsAt[i], x::errorAt);
        }
        TollTrustees none = new TollTrustees();
        due("trim(0) of an empty tape", 0, () -> none.trim(0));
        Checks.feed(none, "stretch a miles 1 soft 9!!!");
        none.trim(23);
        Checks.feed(none, "8;");
        due("what is fed comes behind what is kept", 0, none::teach);
        due("its soft", 8, () -> none.stretch(0, 1));
    }

    private static void teach() {
        Document.promises(4, "Reads the tape as a list, in the place of all that was told before; all begins anew, but the day, "
                + "which stays; no gate is farmed then.");
        Document.promises(4, "Returns 0, or the error, 1 to 5.");
        TollTrustees x = Refusals.made();
        x.setToll(0, 60);
        x.setWheels(0, 1);
        x.grant(500);
        due("taught", 0, x::teach);
        int[] counts = {4, 200, 1, 9, 0, 0, 0, 900, 0, 0, 0, 0, 0};
        for (int what = 0; what < counts.length; what++) {
            int asked = what;
            due("count(" + what + ")", counts[what], () -> x.count(asked));
        }
        due("a list with an own error tells it", 1, () -> Checks.teach(new TollTrustees(), ";"));
        due("an empty list", 0, x::teach);
        due("no road", 0, () -> x.count(2));
        due("the day stays", 4, () -> x.count(0));
        String list = WORN + "farm g for 3 when 1 = 1; mend a with 2;";
        TollTrustees again = Checks.taught(list);
        TollTrustees fresh = Checks.taught(list);
        long before = fresh.digest();
        again.mend(0, 9);
        again.pass(1);
        again.setToll(1, 0);
        again.setWheels(1, 16);
        due("the same list again", 0, () -> Checks.teach(again, list));
        TollTrustees late = new TollTrustees();
        late.pass(1);
        Checks.teach(late, list);
        Checks.due("is like a new one of that day", late.digest(), again::digest);
        Checks.due("but not of another day", false, () -> again.digest() == before);
    }

    private static void teachInThePlaceOfAFullList() {
        Document.promises(4, "Reads the tape as a list, in the place of all that was told before; all begins anew");
        TollTrustees x = Checks.taught(FULL);
        for (int i = 0; i < 12; i++) {
            x.pass(3);
            due("turned back", 3, () -> Math.min(3, x.traffic(7, 6)));
            due("a stretch too many", 4, () -> Checks.teach(x, FULL + "stretch z miles 1 soft 1;"));
            due("an order too many", 4, () -> Checks.teach(x, FULL + "mend s0 with 1;"));
            due("the full list again", 0, () -> Checks.teach(x, FULL));
        }
        TollTrustees twin = new TollTrustees();
        twin.pass(36);
        Checks.teach(twin, FULL);
        Checks.due("is like a new one of that day", twin.digest(), x::digest);
        due("days", twin.pass(3), () -> x.pass(3));
        Checks.due("and goes on like it", twin.digest(), x::digest);
        String list = WORN + "farm g for 3 when day > 50 or farmed g; mend a with 2; mend a with 1 when worst a < 80;";
        due("a short list", 0, () -> Checks.teach(x, list));
        TollTrustees another = new TollTrustees();
        another.pass(39);
        Checks.teach(another, list);
        Checks.due("is like a new one of that day", another.digest(), x::digest);
        due("days", another.pass(40), () -> x.pass(40));
        Checks.due("and goes on like it", another.digest(), x::digest);
    }

    private static void teachWithAnError() {
        Document.promises(4, "If it has an error, all stays (but the tape is empty).");
        String[] wrong = {"stretch z miles 9 soft 9;!", "stretch a miles 1 soft 1; stretch a miles 1 soft 1;", "mend z with 1;",
            "stretch a miles 1 soft 1;" + "mend a with 1;".repeat(21), "stretch a miles 9 soft 10;"};
        for (int i = 0; i < wrong.length; i++) {
            String list = wrong[i];
            TollTrustees x = Refusals.made();
            TollTrustees twin = Refusals.made();
            twin.trim(0);
            due("teach of " + list, i + 1, () -> Checks.teach(x, list));
            Checks.due("all stays behind " + list, twin.digest(), x::digest);
            due("the tape is empty behind " + list, 0, () -> x.count(12));
            due("days behind " + list, twin.pass(9), () -> x.pass(9));
            Checks.due("as without " + list, twin.digest(), x::digest);
        }
    }

    private static void errorAt() {
        Document.promises(5, "Returns the position of the error of the latest teach(); -1 if it had none, or there was none.");
        TollTrustees x = new TollTrustees();
        due("there was none", -1, x::errorAt);
        Checks.feed(x, "!");
        due("a wrong tape that is not read", -1, x::errorAt);
        due("it is read", 1, x::teach);
        due("error at the first byte", 0, x::errorAt);
        x.pass(1);
        x.grant(1);
        Checks.feed(x, "stretch a miles 0 soft 1;");
        x.trim(25);
        due("still", 0, x::errorAt);
        due("another one", 5, x::teach);
        due("its place", 16, x::errorAt);
        due("none", 0, x::teach);
        due("then", -1, x::errorAt);
        due("the end of a full tape", 1, () -> Checks.teach(x, "stretch" + " ".repeat(1993)));
        due("its place", 2000, x::errorAt);
    }

    private static void count() {
        Document.promises(6, "Throws `IndexOutOfBoundsException` if what is not 0 to 12");
        for (int what : new int[] {MIN, -2, -1, 13, 14, MAX}) {
            Refusals.dueOutside("count(" + what + ")", x -> x.count(what));
        }
        TollTrustees x = behind("stretch a miles 3 soft 9; stretch b miles 2 soft 0; gate g at 1 toll 7; gate h at 0 toll 2;"
                + "traffic t weight 60 wheels 6 from 0 to 1 every 1; farm g for 10 when day = 0; mend a with 4 when day = 0;",
                1);
        Checks.feed(x, "abc");
        // 90 of wear on the miles 0 and 1, 2 to the trust, 7 to the farmer, 10 of rent, 4 coins for the miles of 10
        int[] due = {1, 208, 2, 5, 2, 1, 2, 100 + 200 + 10 + 10 + 16, 0, 9, -3, 4, 3};
        for (int what = 0; what < due.length; what++) {
            int asked = what;
            due("count(" + what + ")", due[what], () -> x.count(asked));
        }
        due("broken miles then", 2, () -> {
            x.pass(1);
            return x.count(8);
        });
    }

    private static TollTrustees behind(String list, int days) {
        TollTrustees x = Checks.taught(list);
        x.pass(days);
        return x;
    }

    // ---- what there is

    private static void mile() {
        Document.promises(7, "Throws `IndexOutOfBoundsException` if there is no such mile, or what is not 0 to 3");
        Refusals.dueRows("mile", TollTrustees::mile, 3, 4);
        String gates = "stretch a miles 2 soft 1;";
        for (int number = 0; number <= 5; number++) {
            TollTrustees x = Checks.taught(gates);
            due("no gates", 0, () -> x.mile(0, 2));
            due(number + " gates", number, () -> x.mile(1, 2));
            gates += "gate g" + number + " at 1 toll 0;";
        }
    }

    private static void stretch() {
        Document.promises(8, "Throws `IndexOutOfBoundsException` if there is no such stretch, or what is not 0 to 5");
        Refusals.dueRows("stretch", TollTrustees::stretch, 2, 6);
    }

    private static void gate() {
        Document.promises(9, "Throws `IndexOutOfBoundsException` if there is no such gate, or what is not 0 to 5");
        Document.promises(9, "4 the rent for which it was farmed on the latest day, -1 if it was not");
        Refusals.dueRows("gate", TollTrustees::gate, 2, 6);
        TollTrustees x = Checks.taught(WORN + "farm g for 0 when day = 1;");
        int[] rents = {-1, 0, -1};
        due("ahead of any day", -1, () -> x.gate(0, 4));
        for (int day = 0; day < rents.length; day++) {
            x.pass(1);
            due("on day " + day, rents[day], () -> x.gate(0, 4));
        }
    }

    private static void traffic() {
        Document.promises(10, "Throws `IndexOutOfBoundsException` if there is no such traffic, or what is not 0 to 7");
        Refusals.dueRows("traffic", TollTrustees::traffic, 2, 8);
    }

    private static void toll() {
        Document.promises(11, "Returns the toll of it there, whether it comes by it or not, free or not.");
        Document.promises(11, "Throws `IndexOutOfBoundsException` if there is no such traffic, or no such gate");
        Refusals.dueRows("toll", TollTrustees::toll, 2, 2);
        TollTrustees x = Checks.taught("stretch a miles 2 soft 0; gate g at 0 toll 7; gate h at 1 toll 60; "
                + "traffic t weight 1 wheels 5 from 0 to 0 every 1; traffic u weight 1 wheels 12 from 0 to 1 every 1; "
                + "free u at g when 1 = 1;");
        due("t at g", 14, () -> x.toll(0, 0));
        due("t at h, where it does not come by", 120, () -> x.toll(0, 1));
        due("u at g, where it is free", 3, () -> x.toll(1, 0));
        due("u at h", 30, () -> x.toll(1, 1));
    }

    private static void journey() {
        Document.promises(12, "Throws `IndexOutOfBoundsException` if there is no such traffic, or what is not 0 to 2");
        Document.promises(12, "1 by how much it would wear the miles of it in all (as far as they have that much condition)");
        Document.promises(12, "2 the mile at which it would turn back, -1 for none");
        Refusals.dueRows("journey", TollTrustees::journey, 2, 3);
        for (int wear = 99; wear <= 101; wear++) {
            TollTrustees x = Checks.taught("stretch a miles 1 soft 1; stretch b miles 1 soft 9; "
                    + "traffic u weight 49 wheels 1 from 0 to 0 every 1; traffic t weight " + (wear - 49)
                    + " wheels 1 from 0 to 1 every 30; ");
            due("would wear a mile of 100 by " + (wear - 49), wear - 49 + 100, () -> x.journey(1, 1));
            x.pass(1);
            int left = Math.max(0, 100 - wear);
            due("would turn back behind " + wear, left == 0 ? 0 : 1, () -> x.journey(1, 2));
            due("would wear behind " + wear, left, () -> x.journey(1, 1));
        }
        TollTrustees none = Checks.taught("stretch a miles 1 soft 0; traffic t weight 60 wheels 1 from 0 to 0 every 30;");
        due("would wear nothing", 0, () -> none.journey(0, 1));
        due("would pay nothing", 0, () -> none.journey(0, 0));
        due("would not turn back", -1, () -> none.journey(0, 2));
    }

    private static void journeyChangesNothing() {
        Document.promises(12, "Returns this, if it alone went now as by step 2, whatever its every; what it pays and wears on its "
                + "way counts for tests of free behind it; gates are farmed as on the latest day (nothing is changed).");
        String list = "stretch a miles 2 soft 9; gate g at 0 toll 10; gate h at 1 toll 6; "
                + "traffic t weight 60 wheels 6 from 0 to 1 every 30; traffic u weight 60 wheels 6 from 1 to 0 every 7; "
                + "free t at h when taken g > 10 or condition(0) < 10 or farmed h; farm h for 4 when day = 1; mend a with 20;";
        TollTrustees x = behind(list, 1);
        TollTrustees twin = behind(list, 1);
        long before = x.digest();
        due("on a day that is not its own", 10, () -> x.journey(0, 0));
        due("asked again", 10, () -> x.journey(0, 0));
        due("it alone", 6 + 10, () -> x.journey(1, 0));
        Checks.due("nothing is changed", before, x::digest);
        twin.pass(1);
        x.pass(1);
        Checks.due("nor behind a day", twin.digest(), x::digest);
        TollTrustees early = Checks.taught(list.replace("taken g > 10", "taken g > 9"));
        due("what it pays counts behind it", 10, () -> early.journey(0, 0));
        TollTrustees worn = Checks.taught(list.replace("taken g > 10", "1 = 2").replace("< 10", "<= 10"));
        due("what it wears counts behind it", 10, () -> worn.journey(0, 0));
        TollTrustees farmed = behind(list.replace("taken g > 10 or condition(0) < 10 or ", ""), 2);
        due("farmed as on the latest day", 10, () -> farmed.journey(0, 0));
        farmed.pass(1);
        due("not farmed as on the latest day", 16, () -> farmed.journey(0, 0));
    }

    private static void dueRow(String call, Refusals.Row row, TollTrustees x, int index, int... due) {
        for (int what = 0; what < due.length; what++) {
            int asked = what;
            due(call + "(" + index + ", " + what + ")", due[what], () -> row.answer(x, index, asked));
        }
    }

    private static void allThatIsTold() {
        Document.promises(7, "0 its stretch, 1 its condition, 2 gates that stand at it, 3 by how much its condition got less");
        Document.promises(8, "0 its miles, 1 its soft, 2 its first mile, 3 the least condition of its miles, 4 broken ones of "
                + "them, 5 coins that were spent for it in all");
        Document.promises(9, "0 its mile, 1 its toll, 2 what it took in all, 3 what its farmers gained in all, 4 the rent for "
                + "which it was farmed on the latest day, -1 if it was not, 5 traffics on whose way from from to to it stands");
        Document.promises(10, "0 its weight, 1 its wheels, 2 its from, 3 its to, 4 its every, 5 how often it has passed, "
                + "6 how often it turned back, 7 what it paid in all");
        String list = "stretch a miles 2 soft 5; stretch b miles 3 soft 9; gate g at 1 toll 7; gate h at 4 toll 11; "
                + "traffic t weight 6 wheels 10 from 0 to 1 every 3; traffic u weight 60 wheels 3 from 4 to 2 every 4; "
                + "farm h for 13 when 1 = 1; mend b with 4;";
        // t goes on the days 0 and 3, u on 0 and 4, both pass; b has 8, 4, 4 behind each day of u
        TollTrustees x = behind(list, 5);
        due("coins", 259, () -> x.count(1));
        dueRow("mile", TollTrustees::mile, x, 0, 0, 94, 0, 6);
        dueRow("mile", TollTrustees::mile, x, 1, 0, 94, 1, 6);
        dueRow("mile", TollTrustees::mile, x, 2, 1, 8, 0, 124);
        dueRow("mile", TollTrustees::mile, x, 3, 1, 4, 0, 120);
        dueRow("mile", TollTrustees::mile, x, 4, 1, 4, 1, 120);
        dueRow("stretch", TollTrustees::stretch, x, 0, 2, 5, 0, 94, 0, 0);
        dueRow("stretch", TollTrustees::stretch, x, 1, 3, 9, 2, 4, 0, 20);
        dueRow("gate", TollTrustees::gate, x, 0, 1, 7, 14, 0, -1, 1);
        dueRow("gate", TollTrustees::gate, x, 1, 4, 11, 44, -21, 13, 1);
        dueRow("traffic", TollTrustees::traffic, x, 0, 6, 10, 0, 1, 3, 2, 0, 14);
        dueRow("traffic", TollTrustees::traffic, x, 1, 60, 3, 4, 2, 4, 2, 0, 44);
        TollTrustees y = behind(list.replace("mend b with 4;", ""), 5);
        dueRow("stretch, broken", TollTrustees::stretch, y, 1, 3, 9, 2, 0, 3, 0);
        dueRow("traffic, turned back", TollTrustees::traffic, y, 1, 60, 3, 4, 2, 4, 1, 1, 22);
    }

    private static void lastOfAll() {
        Document.promises(7, "`mile`: a mile");
        Document.promises(8, "`stretch`: a stretch");
        Document.promises(9, "`gate`: a gate");
        Document.promises(10, "`traffic`: a traffic");
        TollTrustees x = Checks.taught(FULL);
        due("the last mile", 4, () -> x.mile(44, 0));
        due("the last stretch", 36, () -> x.stretch(4, 2));
        due("the last gate", 44, () -> x.gate(4, 0));
        due("traffics by the last gate", 8, () -> x.gate(4, 5));
        due("the last traffic", 44, () -> x.traffic(7, 3));
        due("the last toll", 30, () -> x.toll(7, 4));
        due("the last journey", 150, () -> x.journey(7, 0));
        due("its wear", 45 * 33, () -> x.journey(7, 1));
        due("the last set toll", 60, () -> x.setToll(4, 1));
        due("the last set wheels", 16, () -> x.setWheels(7, 15));
        due("the last mended", 0, () -> x.mend(4, 1));
        due("until of the last", 1, () -> Checks.taught(FULL.replaceAll("mend[^;]*;", "")).until(44));
        Refusals.Made made = () -> Checks.taught(FULL);
        Class<? extends RuntimeException> outside = IndexOutOfBoundsException.class;
        Refusals.due("mile(45, 0)", outside, made, y -> y.mile(45, 0));
        Refusals.due("stretch(5, 0)", outside, made, y -> y.stretch(5, 0));
        Refusals.due("gate(5, 0)", outside, made, y -> y.gate(5, 0));
        Refusals.due("traffic(8, 0)", outside, made, y -> y.traffic(8, 0));
        Refusals.due("toll(8, 0)", outside, made, y -> y.toll(8, 0));
        Refusals.due("toll(0, 5)", outside, made, y -> y.toll(0, 5));
        Refusals.due("journey(8, 0)", outside, made, y -> y.journey(8, 0));
        Refusals.due("setToll(5, 0)", outside, made, y -> y.setToll(5, 0));
        Refusals.due("setWheels(8, 1)", outside, made, y -> y.setWheels(8, 1));
        Refusals.due("mend(5, 1)", outside, made, y -> y.mend(5, 1));
        Refusals.due("until(45)", outside, made, y -> y.until(45));
    }

    private static void worst() {
        Document.promises(13, "Returns the mile with the least condition, of several the one with the smallest number; "
                + "-1 without miles.");
        due("without miles", -1, new TollTrustees()::worst);
        due("without miles, taught", -1, Checks.taught("")::worst);
        due("all of 100", 0, Checks.taught(WORN)::worst);
        TollTrustees x = behind(WORN, 1);
        due("91, 70, 70", 1, x::worst);
        x.mend(0, 1);
        due("91, 74, 70", 2, x::worst);
        x.mend(0, 1);
        due("91, 74, 74", 1, x::worst);
        x.mend(0, 9);
        due("91, 94, 90", 2, x::worst);
        x.mend(0, 1);
        due("91, 94, 94", 0, x::worst);
        TollTrustees last = behind("stretch a miles 9 soft 0; stretch b miles 1 soft 9; "
                + "traffic t weight 60 wheels 1 from 9 to 9 every 1;", 1);
        due("a broken last one", 9, last::worst);
    }

    // ---- by hand

    private static void setToll() {
        Document.promises(14, "Returns the one before.");
        Document.promises(14, "Throws `IndexOutOfBoundsException` if there is no such gate");
        Document.promises(14, "Throws `IllegalArgumentException` if toll is not 0 to 60");
        for (int gate : new int[] {MIN, -1, 2, 3, MAX}) {
            Refusals.dueOutside("setToll(" + gate + ", 0)", x -> x.setToll(gate, 0));
            Refusals.dueOutside("setToll(" + gate + ", 60)", x -> x.setToll(gate, 60));
        }
        for (int toll : new int[] {MIN, -1, 61, 62, MAX}) {
            Refusals.dueIllegal("setToll(0, " + toll + ")", x -> x.setToll(0, toll));
            Refusals.dueIllegal("setToll(1, " + toll + ")", x -> x.setToll(1, toll));
        }
        Refusals.due("setToll(0, 0) without a road", IndexOutOfBoundsException.class, TollTrustees::new,
                x -> x.setToll(0, 0));
        TollTrustees x = Checks.taught(WORN);
        int[] tolls = {0, 60, 1, 59, 59};
        int before = 9;
        for (int toll : tolls) {
            due("the toll before " + toll, before, () -> x.setToll(1, toll));
            due("toll " + toll + " is told", toll, () -> x.gate(1, 1));
            due("the other one's stays", 9, () -> x.gate(0, 1));
            due("twice of " + toll + " is paid", 2 * toll, () -> x.journey(0, 0));
            before = toll;
        }
    }

    private static void setWheels() {
        Document.promises(15, "Returns those before.");
        Document.promises(15, "Throws `IndexOutOfBoundsException` if there is no such traffic");
        Document.promises(15, "Throws `IllegalArgumentException` if wheels is not 1 to 16");
        for (int traffic : new int[] {MIN, -1, 2, 3, MAX}) {
            Refusals.dueOutside("setWheels(" + traffic + ", 1)", x -> x.setWheels(traffic, 1));
            Refusals.dueOutside("setWheels(" + traffic + ", 16)", x -> x.setWheels(traffic, 16));
        }
        for (int wheels : new int[] {MIN, -1, 0, 17, 18, MAX}) {
            Refusals.dueIllegal("setWheels(0, " + wheels + ")", x -> x.setWheels(0, wheels));
            Refusals.dueIllegal("setWheels(1, " + wheels + ")", x -> x.setWheels(1, wheels));
        }
        Refusals.due("setWheels(0, 1) without a road", IndexOutOfBoundsException.class, TollTrustees::new,
                x -> x.setWheels(0, 1));
        TollTrustees x = Checks.taught(WORN);
        int[] all = {16, 1, 2, 15, 15};
        int[] wears = {1, 30, 15, 2, 2};
        int before = 1;
        for (int i = 0; i < all.length; i++) {
            int wheels = all[i];
            due("the wheels before " + wheels, before, () -> x.setWheels(0, wheels));
            due("wheels " + wheels + " are told", wheels, () -> x.traffic(0, 1));
            due("the other one's stay", 1, () -> x.traffic(1, 1));
            due("wear with " + wheels, 2 * wears[i], () -> x.journey(0, 1));
            before = wheels;
        }
    }

    private static void mend() {
        Document.promises(16, "Returns how many of them are spent.");
        Document.promises(16, "Throws `IndexOutOfBoundsException` if there is no such stretch");
        Document.promises(16, "Throws `IllegalArgumentException` if coins is not 1 to 999");
        for (int stretch : new int[] {MIN, -1, 2, 3, MAX}) {
            Refusals.dueOutside("mend(" + stretch + ", 1)", x -> x.mend(stretch, 1));
        }
        for (int coins : new int[] {MIN, -1, 0, 1000, 1001, MAX}) {
            Refusals.dueIllegal("mend(0, " + coins + ")", x -> x.mend(0, coins));
        }
        Refusals.due("mend(0, 1) without a road", IndexOutOfBoundsException.class, TollTrustees::new, x -> x.mend(0, 1));
        String list = "stretch a miles 9 soft 9; stretch b miles 2 soft 9; traffic t weight 60 wheels 1 from 0 to 10 every 30; ";
        TollTrustees x = behind(list, 1);
        x.grant(9999);
        due("mend(1, 1)", 1, () -> x.mend(1, 1));
        due("a coin's condition", 4, () -> x.mile(9, 1));
        due("mend(0, 999)", 225, () -> x.mend(0, 999));
        due("mend(0, 1) of a whole stretch", 0, () -> x.mend(0, 1));
        due("mend(1, 999) of what is left", 49, () -> x.mend(1, 999));
        due("spent in all", 275, () -> x.count(11));
        due("coins", 10199 - 275, () -> x.count(1));
        due("spent for b", 50, () -> x.stretch(1, 5));
    }

    private static void mendWithFewCoins() {
        Document.promises(16, "Throws `IllegalStateException` if the trust has fewer");
        Refusals.Made made = () -> behind("stretch a miles 9 soft 9; traffic t weight 60 wheels 1 from 0 to 8 every 30;", 1);
        Refusals.due("mend(0, 201) of 200", IllegalStateException.class, made, x -> x.mend(0, 201));
        Refusals.due("mend(0, 999) of 200", IllegalStateException.class, made, x -> x.mend(0, 999));
        Refusals.due("mend(0, 201) of a whole stretch", IllegalStateException.class, () -> Checks.taught(WORN),
                x -> x.mend(0, 201));
        TollTrustees x = made.anew();
        due("mend(0, 199) of 200", 199, () -> x.mend(0, 199));
        due("mend(0, 1) of 1", 1, () -> x.mend(0, 1));
        due("none are left", 0, () -> x.count(1));
        Refusals.due("mend(0, 1) of 0", IllegalStateException.class, () -> {
            TollTrustees poor = made.anew();
            poor.mend(0, 200);
            return poor;
        }, poor -> poor.mend(0, 1));
    }

    private static void grant() {
        Document.promises(17, "how many coins the trust gets more, at most 99999 in all");
        Document.promises(17, "Returns its coins then.");
        Document.promises(17, "Throws `IllegalArgumentException` if coins is not 1 to 9999");
        for (int coins : new int[] {MIN, -9999, -1, 0, 10000, 10001, MAX}) {
            Refusals.dueIllegal("grant(" + coins + ")", x -> x.grant(coins));
        }
        int[] lasts = {9806, 9807, 9808, 9809, 9999};
        for (int last : lasts) {
            TollTrustees x = new TollTrustees();
            due("grant(1)", 201, () -> x.grant(1));
            for (int i = 1; i <= 9; i++) {
                due("grant(9999)", 201 + 9999 * i, () -> x.grant(9999));
            }
            int coins = Math.min(99999, 90192 + last);
            due("grant(" + last + ") of 90192", coins, () -> x.grant(last));
            due("count(1)", coins, () -> x.count(1));
            due("then grant(1)", Math.min(99999, coins + 1), () -> x.grant(1));
            due("then grant(9999)", 99999, () -> x.grant(9999));
        }
    }

    // ---- days and what would be

    private static void pass() {
        Document.promises(18, "Returns how often traffics pass in them.");
        Document.promises(18, "Throws `IllegalArgumentException` if days is not 1 to 120");
        for (int days : new int[] {MIN, -1, 0, 121, 122, MAX}) {
            Refusals.dueIllegal("pass(" + days + ")", x -> x.pass(days));
        }
        TollTrustees x = Checks.taught("stretch a miles 1 soft 0; traffic t weight 1 wheels 1 from 0 to 0 every 1; "
                + "traffic u weight 1 wheels 1 from 0 to 0 every 30;");
        due("pass(1)", 2, () -> x.pass(1));
        due("pass(119)", 119 + 3, () -> x.pass(119));
        due("pass(120)", 120 + 4, () -> x.pass(120));
        due("the day", 240, () -> x.count(0));
        TollTrustees breaking = Checks.taught("stretch a miles 1 soft 9; traffic t weight 5 wheels 1 from 0 to 0 every 1;");
        due("two of 45 and a third that breaks it", 3, () -> breaking.pass(120));
        due("none then", 0, () -> breaking.pass(1));
    }

    private static void until() {
        Document.promises(19, "Throws `IndexOutOfBoundsException` if there is no such mile");
        Document.promises(19, "Returns behind how many days it is broken, if nothing is done by hand: 0 if now, at most 200; "
                + "-1 if not by then (nothing is changed).");
        for (int mile : new int[] {MIN, -1, 3, 4, MAX}) {
            Refusals.dueOutside("until(" + mile + ")", x -> x.until(mile));
        }
        Refusals.due("until(0) without a road", IndexOutOfBoundsException.class, TollTrustees::new, x -> x.until(0));
        // 12 on the days 0, 25, .. 200: the ninth time it is broken
        TollTrustees x = Checks.taught("stretch a miles 1 soft 1; traffic t weight 12 wheels 1 from 0 to 0 every 25;");
        long before = x.digest();
        due("behind 201 days", -1, () -> x.until(0));
        Checks.due("nothing is changed", before, x::digest);
        x.pass(1);
        due("behind 200 days", 200, () -> x.until(0));
        x.pass(1);
        due("behind 199 days", 199, () -> x.until(0));
        x.pass(120);
        x.pass(78);
        due("behind a day", 1, () -> x.until(0));
        x.pass(1);
        due("now", 0, () -> x.until(0));
        due("it is so", 0, () -> x.mile(0, 1));
        due("mended by hand", 1, () -> x.mend(0, 1));
        due("then", 25, () -> x.until(0));
        due("never", -1, () -> Checks.taught("stretch a miles 1 soft 9;").until(0));
    }

    private static void foresee() {
        Document.promises(20, "Returns this, behind so many days, if nothing is done by hand (nothing is changed).");
        Document.promises(20, "Throws `IllegalArgumentException` if days is not 1 to 120");
        Document.promises(20, "Throws `IndexOutOfBoundsException` if what is none of these");
        for (int days : new int[] {MIN, -1, 0, 121, 122, MAX}) {
            for (int what : new int[] {1, 7, 11}) {
                Refusals.dueIllegal("foresee(" + days + ", " + what + ")", x -> x.foresee(days, what));
            }
        }
        for (int what : new int[] {MIN, -1, 0, 2, 3, 4, 5, 6, 12, 13, MAX}) {
            for (int days : new int[] {1, 120}) {
                Refusals.dueOutside("foresee(" + days + ", " + what + ")", x -> x.foresee(days, what));
            }
        }
        int[] whats = {1, 7, 8, 9, 10, 11};
        for (int days : new int[] {1, 2, 119, 120}) {
            for (int what : whats) {
                TollTrustees x = Refusals.made();
                TollTrustees twin = Refusals.made();
                twin.pass(days);
                due("foresee(" + days + ", " + what + ")", twin.count(what), () -> x.foresee(days, what));
                Checks.due("nothing is changed", Refusals.made().digest(), x::digest);
            }
        }
        TollTrustees x = Checks.taught("stretch a miles 1 soft 9; gate g at 0 toll 5; "
                + "traffic t weight 60 wheels 6 from 0 to 0 every 1; farm g for 7 when day = 1; mend a with 3;");
        // day 0: 5 coins, 10 left, 3 coins for 22; day 1: 5 to the farmer, 7 of rent, broken, 3 coins for 12
        int[] one = {202, 22, 0, 5, 0, 3};
        int[] two = {206, 12, 0, 10, -2, 6};
        for (int i = 0; i < whats.length; i++) {
            int what = whats[i];
            due("foresee(1, " + what + ")", one[i], () -> x.foresee(1, what));
            due("foresee(2, " + what + ")", two[i], () -> x.foresee(2, what));
        }
        TollTrustees passed = behind("stretch a miles 1 soft 0; gate g at 0 toll 0; "
                + "traffic t weight 1 wheels 6 from 0 to 0 every 1; farm g for 9 when passed t = 2 or passed t = 4;", 2);
        int[] coins = {209, 209, 218, 218};
        for (int i = 0; i < coins.length; i++) {
            int days = i + 1;
            due("what passed so far counts, foresee(" + days + ", 1)", coins[i], () -> passed.foresee(days, 1));
            due("foreseen again", coins[i], () -> passed.foresee(days, 1));
        }
        due("broken miles of all", 45, () -> Checks.taught(FULL.replaceAll("mend[^;]*;", "")).foresee(1, 8));
    }

    private static void adviseRefuses() {
        Document.promises(21, "Throws `IllegalArgumentException` if rent is not 0 to 999, or days is not 1 to 90");
        int[] rents = {MIN, -1, 0, 999, 1000, MAX};
        int[] days = {MIN, -1, 0, 1, 90, 91, MAX};
        TollTrustees fine = Refusals.made();
        for (int rent : rents) {
            for (int day : days) {
                String call = "advise(" + rent + ", " + day + ")";
                if (rent >= 0 && rent <= 999 && day >= 1 && day <= 90) {
                    Checks.due(call + " answers", true, () -> fine.advise(rent, day) >= -1);
                } else {
                    Refusals.dueIllegal(call, x -> x.advise(rent, day));
                }
            }
        }
    }

    private static void advise() {
        Document.promises(21, "Returns this, of several the one with the smallest number; -1 if by none it has more than without "
                + "(nothing is changed).");
        String list = "stretch a miles 2 soft 0; gate g at 0 toll 10; gate h at 1 toll 10; "
                + "traffic t weight 1 wheels 6 from 0 to 1 every 1; ";
        TollTrustees x = Checks.taught(list);
        long before = x.digest();
        due("a coin less than each takes", -1, () -> x.advise(9, 1));
        due("as much as each takes", -1, () -> x.advise(10, 90));
        due("a coin more, of several the first", 0, () -> x.advise(11, 1));
        due("the greatest rent, the most days", 0, () -> x.advise(999, 90));
        due("a rent of 0", -1, () -> x.advise(0, 90));
        Checks.due("nothing is changed", before, x::digest);
        x.setToll(1, 9);
        due("the one that takes a coin less", 1, () -> x.advise(11, 1));
        due("more than one of them takes", 1, () -> x.advise(10, 1));
        x.setToll(1, 0);
        due("a rent of 0 for nothing", -1, () -> x.advise(0, 1));
        due("a rent of 1 for nothing", 1, () -> x.advise(1, 1));
        due("without gates", -1, () -> new TollTrustees().advise(999, 90));
        TollTrustees dear = Checks.taught(list + "farm g for 50 when 1 = 1; farm h for 10 when 1 = 1;");
        due("whatever orders of farm say of it", -1, () -> dear.advise(10, 5));
        due("whatever orders of farm say of it", 1, () -> dear.advise(11, 5));
        due("more than the orders' rent, of several the one that gains more", 1, () -> dear.advise(51, 5));
        TollTrustees most = Checks.taught(list);
        for (int i = 0; i < 10; i++) {
            most.grant(9999);
        }
        due("99999 coins", 99999, () -> most.grant(9999));
        due("no more than the most", -1, () -> most.advise(999, 90));
    }

    private static void widen() {
        Document.promises(22, "Returns this, of several the one with the smallest number; -1 without any (nothing is changed).");
        Document.promises(22, "Throws `IllegalArgumentException` if days is not 1 to 90");
        for (int days : new int[] {MIN, -1, 0, 91, 92, MAX}) {
            Refusals.dueIllegal("widen(" + days + ")", x -> x.widen(days));
        }
        due("without a road", -1, () -> new TollTrustees().widen(1));
        due("without traffics", -1, () -> Checks.taught("stretch a miles 1 soft 9; gate g at 0 toll 1;").widen(90));
        String list = "stretch a miles 2 soft 4; traffic t weight 4 wheels 4 from 0 to 0 every 1; "
                + "traffic u weight 4 wheels # from 1 to 1 every 1; ";
        due("of several the first", 0, () -> Checks.taught(list.replace("#", "4")).widen(1));
        due("one that wears as much", 0, () -> Checks.taught(list.replace("#", "4")).widen(90));
        due("one that wears less", 0, () -> Checks.taught(list.replace("#", "8")).widen(1));
        due("one that wears more", 1, () -> Checks.taught(list.replace("#", "3")).widen(1));
        due("one alone", 0, () -> Checks.taught("stretch a miles 1 soft 0; "
                + "traffic t weight 1 wheels 16 from 0 to 0 every 1;").widen(90));
        due("both of 16", 0, () -> Checks.taught(list.replace("#", "16").replace("wheels 4", "wheels 16")).widen(5));
        TollTrustees x = Checks.taught(list.replace("#", "3"));
        long before = x.digest();
        x.widen(90);
        Checks.due("nothing is changed", before, x::digest);
        TollTrustees broken = behind("stretch a miles 1 soft 9; traffic t weight 60 wheels 1 from 0 to 0 every 1;", 1);
        due("no condition at all", 0, () -> broken.widen(90));
    }

    private static void mean() {
        Document.promises(23, "Returns the mean condition of all miles; 0 without any.");
        Checks.due("without a road", 0.0, new TollTrustees()::mean);
        Checks.due("without miles", 0.0, Checks.taught("")::mean);
        Checks.due("all of 100", 100.0, Checks.taught(FULL)::mean);
        String list = "stretch a miles 3 soft 1; traffic t weight # wheels 1 from 0 to 0 every 1;";
        Checks.due("a third", 299 / 3.0, behind(list.replace("#", "1"), 1)::mean);
        Checks.due("two thirds", 298 / 3.0, behind(list.replace("#", "2"), 1)::mean);
        Checks.due("a whole", 99.0, behind(list.replace("#", "3"), 1)::mean);
        Checks.due("all broken", 0.0, behind("stretch a miles 2 soft 9; traffic t weight 60 wheels 1 from 0 to 1 every 1;",
                1)::mean);
    }

    private static final String DIGESTED = "A number d starts with 883; for each of the following numbers x, d becomes "
            + "d * 31 + x, which wraps around as a 64-bit integer: what count() tells; for each mile what mile() tells; "
            + "for each stretch what stretch() tells; for each gate what gate() tells; for each traffic what traffic() tells "
            + "(all in their order).";

    private static void digest() {
        Document.promises(24, DIGESTED);
        Document.promises(24, "Returns d.");
        Checks.due("of a new one", digestOf(new TollTrustees()), new TollTrustees()::digest);
        for (String list : new String[] {"", WORN, FULL, "stretch a miles 1 soft 0;"}) {
            TollTrustees x = Checks.taught(list);
            Checks.due("of a road", digestOf(x), x::digest);
            x.pass(3);
            x.feed(0, 0, 0, 0, 0);
            Checks.due("behind days, with a tape", digestOf(x), x::digest);
            x.grant(1);
            Checks.due("with another coin", digestOf(x), x::digest);
        }
        TollTrustees made = Refusals.made();
        Checks.due("with losses", digestOf(made), made::digest);
    }

    private static final class Digest {
        private BigInteger d = BigInteger.valueOf(883);

        void add(int index, int whats, Refusals.Row row, TollTrustees x) {
            for (int what = 0; what < whats; what++) {
                d = d.multiply(BigInteger.valueOf(31)).add(BigInteger.valueOf(row.answer(x, index, what)));
            }
        }

        void addAll(int rows, int whats, Refusals.Row row, TollTrustees x) {
            for (int index = 0; index < rows; index++) {
                add(index, whats, row, x);
            }
        }
    }

    /** As told with whole numbers of any size: what is left of it in 64 bits. */
    private static long digestOf(TollTrustees x) {
        Digest digest = new Digest();
        digest.add(0, 13, (y, index, what) -> y.count(what), x);
        digest.addAll(x.count(3), 4, TollTrustees::mile, x);
        digest.addAll(x.count(2), 6, TollTrustees::stretch, x);
        digest.addAll(x.count(4), 6, TollTrustees::gate, x);
        digest.addAll(x.count(5), 8, TollTrustees::traffic, x);
        return digest.d.longValue();
    }

    // ---- of all calls

    private static void severalExceptions() {
        Document.says("A method that throws an exception changes nothing. If several exceptions apply, the one that is named "
                + "first is thrown.");
        for (int none : new int[] {MIN, -1, 2, MAX}) {
            for (int toll : new int[] {MIN, -1, 61, MAX}) {
                Refusals.dueOutside("setToll(" + none + ", " + toll + ")", x -> x.setToll(none, toll));
            }
            for (int wheels : new int[] {MIN, 0, 17, MAX}) {
                Refusals.dueOutside("setWheels(" + none + ", " + wheels + ")", x -> x.setWheels(none, wheels));
            }
            for (int coins : new int[] {MIN, 0, 999, 1000, MAX}) {
                Refusals.dueOutside("mend(" + none + ", " + coins + ")", x -> x.mend(none, coins));
            }
        }
        for (int coins : new int[] {1000, MAX}) {
            Refusals.dueIllegal("mend(0, " + coins + ") with fewer coins", x -> x.mend(0, coins));
        }
        Refusals.due("mend(0, 999) with fewer coins", IllegalStateException.class, x -> x.mend(0, 999));
        for (int days : new int[] {MIN, 0, 121, MAX}) {
            for (int what : new int[] {MIN, -1, 0, 6, 12, MAX}) {
                Refusals.dueIllegal("foresee(" + days + ", " + what + ")", x -> x.foresee(days, what));
            }
        }
    }

    private static void mostCalls() {
        Document.says("An object is used for at most 512 calls after it has been made");
        TollTrustees x = Checks.taught(FULL);
        for (int call = 0; call < 400; call++) {
            x.pass(120);
        }
        due("the day", 400 * 120, () -> x.count(0));
        due("what gates took is what traffics paid", 0, () -> {
            int paid = 0;
            for (int traffic = 0; traffic < 8; traffic++) {
                paid += x.traffic(traffic, 7);
            }
            return paid - x.count(9);
        });
    }
}
