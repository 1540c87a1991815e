import java.util.List;

/** Promises 1 to 6: a new object, the tape, the language with its errors, and count. */
public final class LanguageTest {
    private static final String ROAD = "stretch a miles 2 soft 1; gate g at 0 toll 4; "
            + "traffic t weight 8 wheels 8 from 0 to 1 every 1; ";

    private LanguageTest() {
    }

    public static void main(String[] args) {
        newObject();
        feedAndTrim();
        teachTakesThePlace();
        teachWithAnErrorLeavesAll();
        teachAgainAndAgain();
        tokens();
        namesLikeKeywords();
        wrongTokens();
        grammar();
        depth();
        mostTokens();
        toldTwice();
        notTold();
        tooMany();
        outOfRange();
        firstErrorIsTold();
        count();
        Checks.end("LanguageTest");
    }

    private static void newObject() {
        TollTrustees x = new TollTrustees();
        int[] due = {0, 200, 0, 0, 0, 0, 0, 0, 0, 0, 0, 0, 0};
        for (int what = 0; what < due.length; what++) {
            int asked = what;
            Checks.due("new, count(" + what + ")", due[what], () -> x.count(asked));
        }
        Checks.due("new, errorAt()", -1, x::errorAt);
        Checks.due("new, worst()", -1, x::worst);
        Checks.due("new, mean()", 0.0, x::mean);
        Checks.due("new, pass(120)", 0, () -> x.pass(120));
        Checks.due("behind it, count(0)", 120, () -> x.count(0));
        Checks.due("behind it, count(1)", 200, () -> x.count(1));
    }

    private static void feedAndTrim() {
        TollTrustees x = new TollTrustees();
        for (int n = 1; n <= 100; n++) {
            Checks.due("feed " + n, 20 * n, () -> x.feed(0, 0, 0, 0, 0));
        }
        Checks.dueException("feed 101", IllegalStateException.class, x, () -> x.feed(0, 0, 0, 0, 0));
        Checks.dueIllegal("trim(2001)", x, () -> x.trim(2001));
        Checks.dueIllegal("trim(-1)", x, () -> x.trim(-1));
        Checks.due("trim(2000)", 2000, () -> x.trim(2000));
        Checks.due("trim(1981)", 1981, () -> x.trim(1981));
        Checks.dueException("feed at 1981", IllegalStateException.class, x, () -> x.feed(0, 0, 0, 0, 0));
        Checks.due("trim(1980)", 1980, () -> x.trim(1980));
        Checks.due("feed at 1980", 2000, () -> x.feed(0, 0, 0, 0, 0));
        Checks.due("count(12)", 2000, () -> x.count(12));
        Checks.due("trim(0)", 0, () -> x.trim(0));
        Checks.dueIllegal("trim(1) of an empty tape", x, () -> x.trim(1));
        Checks.due("the order of the bytes", 20, () -> x.feed(
                0x73747265, 0x74636820, 0x61206d69, 0x6c657320, 0x3220736f));
        Checks.due("the order of the bytes", 40, () -> x.feed(
                0x66742031, 0x3b800000, 0x00ff0000, Integer.MIN_VALUE, -1));
        Checks.due("trim(25)", 25, () -> x.trim(25));
        Checks.due("teach()", 0, x::teach);
        Checks.due("miles", 2, () -> x.count(3));
        Checks.due("the tape is empty", 0, () -> x.count(12));
    }

    private static void teachTakesThePlace() {
        TollTrustees x = Checks.taught(ROAD + "farm g for 9 when day > 0 - 1; mend a with 3;");
        x.pass(7);
        x.setToll(0, 60);
        x.setWheels(0, 1);
        Checks.due("farmed on the latest day", 9, () -> x.gate(0, 4));
        Checks.due("taught anew", 0, () -> Checks.teach(x, ROAD + "free t at g when farmed g;"));
        Checks.due("the day stays", 7, () -> x.count(0));
        int[] due = {7, 200, 1, 2, 1, 1, 1, 200, 0, 0, 0, 0, 0};
        for (int what = 0; what < due.length; what++) {
            int asked = what;
            Checks.due("taught anew, count(" + what + ")", due[what], () -> x.count(asked));
        }
        Checks.due("no gate is farmed", -1, () -> x.gate(0, 4));
        Checks.due("nor for a test", 4, () -> x.journey(0, 0));
        Checks.due("its toll is the told one", 4, () -> x.gate(0, 1));
        Checks.due("its wheels are the told ones", 8, () -> x.traffic(0, 1));
        Checks.due("it has not passed", 0, () -> x.traffic(0, 5));
        Checks.due("the mile is not worn", 0, () -> x.mile(0, 3));
        Checks.due("an empty list", 0, x::teach);
        Checks.due("without a road", 0, () -> x.count(3));
        Checks.due("the day stays", 7, () -> x.count(0));
    }

    private static void teachWithAnErrorLeavesAll() {
        TollTrustees x = Checks.taught(ROAD + "farm g for 9 when day = 2;");
        x.pass(3);
        long before = x.digest();
        int[] errors = {1, 2, 3, 4, 5};
        String[] lists = {"stretch", "stretch a miles 1 soft 1; stretch a miles 1 soft 1;", "mend q with 1;",
            "stretch a miles 1 soft 1;" + "mend a with 1;".repeat(21), "stretch a miles 0 soft 1;"};
        for (int i = 0; i < lists.length; i++) {
            String list = lists[i];
            Checks.due("teach: " + list, errors[i], () -> Checks.teach(x, list));
            Checks.due("all stays behind: " + list, before, x::digest);
        }
        Checks.due("farmed still", 9, () -> x.gate(0, 4));
        Checks.due("errorAt of the latest", 16, x::errorAt);
        Checks.due("errorAt is of teach, not of trim", 0, () -> x.trim(0));
        Checks.due("errorAt still", 16, x::errorAt);
        Checks.due("a list without error", 0, () -> Checks.teach(x, ""));
        Checks.due("errorAt then", -1, x::errorAt);
    }

    /** What earlier lists told, the wrong ones too, takes no room from a later one. */
    private static void teachAgainAndAgain() {
        String full = ROAD + "mend a with 1 when 1 = 2;".repeat(18) + "farm g for 9 when day = 0 + 1 * 0 or farmed g;";
        TollTrustees x = new TollTrustees();
        for (int i = 0; i < 12; i++) {
            Checks.due("a full list", 0, () -> Checks.teach(x, full));
            Checks.due("the same with too many orders", 4, () -> Checks.teach(x, full + "mend a with 2; mend a with 3;"));
            Checks.due("the same without an end", 1, () -> Checks.teach(x, full + "mend a with 2"));
        }
        x.pass(1);
        Checks.due("its last order holds", 9, () -> x.gate(0, 4));
        Checks.due("a short list", 0, () -> Checks.teach(x, "stretch a miles 1 soft 9; "
                + "traffic t weight 60 wheels 1 from 0 to 0 every 1; mend a with 3 + 4 when day = 1 + 1 or day = 1;"));
        int[] due = {1, 200, 1, 1, 0, 1, 1, 100};
        for (int what = 0; what < due.length; what++) {
            int asked = what;
            Checks.due("a short list, count(" + what + ")", due[what], () -> x.count(asked));
        }
        x.pass(1);
        Checks.due("its order holds", 7, () -> x.count(11));
        Checks.dueOutside("it has no gates", x, () -> x.gate(0, 0));
    }

    /** Each keyword with another letter in front, at its end or in its middle, and cut or lengthened, is a name. */
    private static void namesLikeKeywords() {
        List<String> keywords = List.of(("stretch miles soft gate at toll traffic weight wheels from to every free farm "
                + "for mend with when day coins worst condition taken gain passed farmed broken not and or min max")
                .split(" "));
        for (String word : keywords) {
            int middle = word.length() / 2;
            String[] names = {"z" + word.substring(1), word.substring(0, word.length() - 1) + "z",
                word.substring(0, middle) + "z" + word.substring(middle + 1), word + "s", word + "0", "z" + word,
                word.substring(0, word.length() - 1), word.substring(1)};
            for (String name : names) {
                if (!keywords.contains(name)) {
                    Checks.dueError("stretch " + name + " miles 2 soft 1; mend " + name + " with worst " + name + ";",
                            "0");
                }
            }
            Checks.dueErrorAtMark(1, "stretch ^" + word + " miles 2 soft 1;");
        }
    }

    private static void tokens() {
        Checks.dueError("", "0");
        Checks.dueError(" \n \n", "0");
        Checks.dueError("\nstretch\na\nmiles\n2\nsoft\n1\n;\n", "0");
        Checks.dueError("stretch a miles 2soft 1;", "0");
        Checks.dueError("stretch a miles 000002 soft 000000;", "0");
        Checks.dueErrorAtMark(1, "stretch a miles ^0000002 soft 1;");
        Checks.dueError("stretch abcdefghij miles 2 soft 1;", "0");
        Checks.dueErrorAtMark(1, "stretch ^abcdefghijk miles 2 soft 1;");
        Checks.dueErrorAtMark(1, "stretch a^B miles 2 soft 1;");
        Checks.dueErrorAtMark(1, "stretch ^B miles 2 soft 1;");
        Checks.dueErrorAtMark(1, "stretch a miles 2 soft 1^. ;");
        Checks.dueErrorAtMark(1, "stretch a^\tmiles 2 soft 1;");
        Checks.dueErrorAtMark(1, "stretch a^\rmiles 2 soft 1;");
        Checks.dueErrorAtMark(1, "stretch a^\u0000miles 2 soft 1;");
        Checks.dueErrorAtMark(1, "stretch a^\u00e4 miles 2 soft 1;");
        Checks.dueErrorAtMark(1, "stretch a^\u00ff");
        Checks.dueErrorAtMark(1, "^stretcha miles 2 soft 1;");
        Checks.dueErrorAtMark(1, "stretch a ^miles2 soft 1;");
        Checks.dueError("stretch x1y2 miles 2 soft 1;mend x1y2 with 999999;", "0");
        Checks.dueErrorAtMark(1, "stretch x miles 2 soft 1;mend x with ^1000000;");
        Checks.dueError(ROAD + "mend a with 5-3 when 1<=2and 2>=1 or 1<2 or 2>1 or 1=1;", "0");
        Checks.dueErrorAtMark(1, ROAD + "mend a with 5 when 1 < ^= 2;");
        Checks.dueErrorAtMark(1, ROAD + "mend a with 5 when 1 = ^< 2;");
        Checks.dueErrorAtMark(1, ROAD + "mend a with 5 when 1 ^! 2;");
    }

    private static void wrongTokens() {
        Checks.dueErrorAtMark(1, "^;");
        Checks.dueErrorAtMark(1, "  ^a");
        Checks.dueErrorAtMark(1, "stretch^");
        Checks.dueErrorAtMark(1, "stretch  \n ^");
        Checks.dueErrorAtMark(1, "stretch ^miles miles 1 soft 1;");
        Checks.dueErrorAtMark(1, "stretch ^5 miles 1 soft 1;");
        Checks.dueErrorAtMark(1, "stretch a ^soft 1 miles 1;");
        Checks.dueErrorAtMark(1, "stretch a miles ^b soft 1;");
        Checks.dueErrorAtMark(1, "stretch a miles ^-1 soft 1;");
        Checks.dueErrorAtMark(1, "stretch a miles 1 soft 1^");
        Checks.dueErrorAtMark(1, "stretch a miles 1 soft 1 ^stretch b miles 1 soft 1;");
        Checks.dueErrorAtMark(1, "stretch a miles 1 soft 1;^;");
        Checks.dueErrorAtMark(1, "gate g at ^a toll 1;");
        Checks.dueErrorAtMark(1, "gate g ^for 0 toll 1;");
        Checks.dueErrorAtMark(1, "traffic t weight 1 wheels 1 from 0 ^at 0 every 1;");
        Checks.dueErrorAtMark(1, "traffic t weight 1 wheels 1 from 0 to 0^;");
        Checks.dueErrorAtMark(1, ROAD + "free t at ^0 when 1 = 1;");
        Checks.dueErrorAtMark(1, ROAD + "free t at g^;");
        Checks.dueErrorAtMark(1, ROAD + "farm g for 9^;");
        Checks.dueErrorAtMark(1, ROAD + "farm g for ^day when 1 = 1;");
        Checks.dueErrorAtMark(1, ROAD + "mend a with^;");
        Checks.dueErrorAtMark(1, ROAD + "mend a with 1 when^;");
        Checks.dueErrorAtMark(1, ROAD + "mend a ^when 1 = 1;");
    }

    private static void grammar() {
        Checks.dueError(ROAD + "free t at g when not not [1 = 1 or farmed g] and broken a;", "0");
        Checks.dueError(ROAD + "mend a with min(1, max(2, 3)) * condition(day) / -(coins - worst a);", "0");
        Checks.dueError(ROAD + "mend a with taken g + gain g - passed t * - - 4;", "0");
        Checks.dueErrorAtMark(1, ROAD + "mend a with ^+ 4;");
        Checks.dueErrorAtMark(1, ROAD + "mend a with 4 ^5;");
        Checks.dueErrorAtMark(1, ROAD + "mend a with 4 ^a;");
        Checks.dueErrorAtMark(1, ROAD + "mend a with ^a;");
        Checks.dueErrorAtMark(1, ROAD + "mend a with ^farmed g;");
        Checks.dueErrorAtMark(1, ROAD + "mend a with ^[1];");
        Checks.dueErrorAtMark(1, ROAD + "mend a with 1 ^< 2;");
        Checks.dueErrorAtMark(1, ROAD + "mend a with (1^;");
        Checks.dueErrorAtMark(1, ROAD + "mend a with (1 ^< 2);");
        Checks.dueErrorAtMark(1, ROAD + "mend a with 1^);");
        Checks.dueErrorAtMark(1, ROAD + "mend a with min(1^);");
        Checks.dueErrorAtMark(1, ROAD + "mend a with max(1, 2^, 3);");
        Checks.dueErrorAtMark(1, ROAD + "mend a with min ^1;");
        Checks.dueErrorAtMark(1, ROAD + "mend a with condition ^a;");
        Checks.dueErrorAtMark(1, ROAD + "mend a with worst ^day;");
        Checks.dueErrorAtMark(1, ROAD + "mend a with taken ^(g);");
        Checks.dueErrorAtMark(1, ROAD + "mend a with 1 when 1^;");
        Checks.dueErrorAtMark(1, ROAD + "mend a with 1 when (1 ^= 1);");
        Checks.dueErrorAtMark(1, ROAD + "mend a with 1 when [1 = 1^;");
        Checks.dueErrorAtMark(1, ROAD + "mend a with 1 when 1 = 1 ^= 1;");
        Checks.dueErrorAtMark(1, ROAD + "mend a with 1 when 1 = ^not 1 = 1;");
        Checks.dueErrorAtMark(1, ROAD + "mend a with 1 when farmed g ^= 1;");
        Checks.dueErrorAtMark(1, ROAD + "mend a with 1 when farmed g ^+ 1;");
        Checks.dueErrorAtMark(1, ROAD + "mend a with 1 when [1 = 1] ^+ 1;");
        Checks.dueErrorAtMark(1, ROAD + "mend a with 1 when 1 = 1 and^;");
        Checks.dueErrorAtMark(1, ROAD + "mend a with 1 when ^or 1 = 1;");
        Checks.dueErrorAtMark(1, ROAD + "mend a with 1 when 1 = 1 ^not 1 = 1;");
        Checks.dueErrorAtMark(1, ROAD + "mend a with 1 when ^when 1 = 1;");
    }

    private static void depth() {
        Checks.dueError(ROAD + "mend a with " + "(".repeat(8) + "1" + ")".repeat(8) + ";", "0");
        Checks.dueErrorAtMark(1, ROAD + "mend a with " + "(".repeat(8) + "^(1" + ")".repeat(9) + ";");
        Checks.dueError(ROAD + "mend a with " + "-".repeat(8) + "1;", "0");
        Checks.dueErrorAtMark(1, ROAD + "mend a with " + "-".repeat(8) + "^-1;");
        Checks.dueError(ROAD + "mend a with " + "-".repeat(8) + "1 - -1;", "0");
        Checks.dueError(ROAD + "mend a with 1 when " + "not ".repeat(8) + "1 = 1;", "0");
        Checks.dueErrorAtMark(1, ROAD + "mend a with 1 when " + "not ".repeat(8) + "^not 1 = 1;");
        Checks.dueErrorAtMark(1, ROAD + "mend a with 1 when " + "not ".repeat(8) + "^[1 = 1];");
        Checks.dueErrorAtMark(1, ROAD + "mend a with 1 when " + "not ".repeat(8) + "^-1 = 1;");
        Checks.dueErrorAtMark(1, ROAD + "mend a with 1 when " + "not ".repeat(8) + "1 = ^(1);");
        Checks.dueError(ROAD + "mend a with 1 when " + "not ".repeat(8) + "1 = 1 and (1) = 1;", "0");
        Checks.dueError(ROAD + "mend a with 1 when " + "[".repeat(8) + "1 = 1" + "]".repeat(8) + " or (1) = 1;", "0");
        Checks.dueErrorAtMark(1, ROAD + "mend a with 1 when " + "[".repeat(8) + "^[1 = 1" + "]".repeat(9) + ";");
        Checks.dueErrorAtMark(1, ROAD + "mend a with 1 when [[[[not not (-1) = -(^-1)]]]];");
        Checks.dueError(ROAD + "mend a with 1 when [[[[not not (-1) = -(1)]]]];", "0");
        Checks.dueError(ROAD + "mend a with " + "min(1, ".repeat(8) + "1" + ")".repeat(8) + ";", "0");
        Checks.dueErrorAtMark(1, ROAD + "mend a with " + "min(1, ".repeat(8) + "max^(1, 1" + ")".repeat(9) + ";");
        Checks.dueErrorAtMark(1, ROAD + "mend a with " + "condition(".repeat(8) + "condition^(1" + ")".repeat(9) + ";");
        Checks.dueErrorAtMark(1, ROAD + "mend a with -(-(-(-(^-1))));");
        Checks.dueError(ROAD + "mend a with -(-(-(-(1 - 1)))) + (1) + -1;", "0");
    }

    private static void mostTokens() {
        String road = "stretch a miles 2 soft 1;gate g at 0 toll 4;";
        String open = road + "mend a with 1" + "+1".repeat(191);
        Checks.dueErrorAtMark(1, open + "^");
        Checks.dueErrorAtMark(1, open + " \n ^");
        Checks.dueErrorAtMark(1, open + "^;");
        Checks.dueErrorAtMark(1, open + " ^!");
        String whole = road + "gate h at 0 toll 4;mend a with 1" + "+1".repeat(187) + ";";
        Checks.dueError(whole, "0");
        Checks.dueError(whole + "  \n", "0");
        Checks.dueErrorAtMark(1, whole + " ^stretch");
        Checks.dueErrorAtMark(1, whole + " ^5");
    }

    private static void toldTwice() {
        Checks.dueErrorAtMark(2, "stretch a miles 1 soft 1; stretch ^a miles 1 soft 1;");
        Checks.dueErrorAtMark(2, ROAD + "gate ^g at 0 toll 1;");
        Checks.dueErrorAtMark(2, ROAD + "traffic ^t weight 1 wheels 1 from 0 to 0 every 1;");
        Checks.dueError("stretch a miles 1 soft 1; gate a at 0 toll 1; "
                + "traffic a weight 1 wheels 1 from 0 to 0 every 1; free a at a when farmed a; mend a with passed a;", "0");
        Checks.dueError("stretch ab miles 1 soft 1; stretch abc miles 1 soft 1; stretch a miles 1 soft 1;", "0");
    }

    private static void notTold() {
        Checks.dueErrorAtMark(3, ROAD + "mend ^g with 1;");
        Checks.dueErrorAtMark(3, ROAD + "mend ^ab with 1;");
        Checks.dueErrorAtMark(3, "mend ^a with 1; stretch a miles 1 soft 1;");
        Checks.dueErrorAtMark(3, ROAD + "mend a with worst ^t;");
        Checks.dueErrorAtMark(3, ROAD + "mend a with 1 when broken ^g;");
        Checks.dueErrorAtMark(3, ROAD + "free t at ^a when 1 = 1;");
        Checks.dueErrorAtMark(3, ROAD + "free ^g at g when 1 = 1;");
        Checks.dueErrorAtMark(3, ROAD + "farm ^a for 1 when 1 = 1;");
        Checks.dueErrorAtMark(3, ROAD + "mend a with taken ^t;");
        Checks.dueErrorAtMark(3, ROAD + "mend a with gain ^a;");
        Checks.dueErrorAtMark(3, ROAD + "mend a with passed ^g;");
        Checks.dueErrorAtMark(3, ROAD + "mend a with 1 when farmed ^t;");
        Checks.dueError(ROAD + "free t at g when farmed g or broken a; mend a with taken g + gain g + passed t;", "0");
    }

    private static void tooMany() {
        StringBuilder stretches = new StringBuilder();
        StringBuilder gates = new StringBuilder();
        StringBuilder traffics = new StringBuilder();
        for (int i = 0; i < 5; i++) {
            stretches.append("stretch a").append(i).append(" miles 9 soft 1;");
            gates.append("gate a").append(i).append(" at 0 toll 1;");
        }
        for (int i = 0; i < 8; i++) {
            traffics.append("traffic a").append(i).append(" weight 1 wheels 1 from 0 to 0 every 1;");
        }
        String all = stretches.toString() + gates + traffics;
        Checks.dueError(all, "0");
        Checks.dueErrorAtMark(4, all + "stretch ^b miles 0 soft 1;");
        Checks.dueErrorAtMark(4, all + "gate ^b at 45 toll 1;");
        Checks.dueErrorAtMark(4, all + "traffic ^b weight 1 wheels 1 from 0 to 0 every 1;");
        Checks.dueErrorAtMark(2, all + "stretch ^a4 miles 1 soft 1;");
        Checks.dueErrorAtMark(2, all + "gate ^a0 at 0 toll 1;");
        Checks.dueErrorAtMark(2, all + "traffic ^a7 weight 1 wheels 1 from 0 to 0 every 1;");
        String twenty = ROAD + "mend a with 1;".repeat(10) + "farm g for 1 when day = 0;".repeat(5)
                + "free t at g when day = 0;".repeat(5);
        Checks.dueError(twenty, "0");
        Checks.dueErrorAtMark(4, twenty + "^mend q with 1;");
        Checks.dueErrorAtMark(4, twenty + "^farm q for 1000 when 1 = 1;");
        Checks.dueErrorAtMark(4, twenty + "^free t at g when 1 = 1; mend a with 1;");
        Checks.dueErrorAtMark(5, "stretch a miles ^10 soft 1;" + "mend a with 1;".repeat(30));
    }

    private static void outOfRange() {
        String[] lists = {"stretch b miles # soft 1;", "stretch b miles 1 soft #;", "gate h at # toll 1;",
            "gate h at 0 toll #;", "traffic u weight # wheels 1 from 0 to 0 every 1;",
            "traffic u weight 1 wheels # from 0 to 0 every 1;", "traffic u weight 1 wheels 1 from # to 0 every 1;",
            "traffic u weight 1 wheels 1 from 0 to # every 1;", "traffic u weight 1 wheels 1 from 0 to 0 every #;",
            "farm g for # when 1 = 1;"};
        int[] least = {1, 0, 0, 0, 1, 1, 0, 0, 1, 0};
        int[] most = {9, 9, 1, 60, 60, 16, 1, 1, 30, 999};
        for (int i = 0; i < lists.length; i++) {
            Checks.dueError(ROAD + lists[i].replace("#", "" + least[i]), "0");
            Checks.dueError(ROAD + lists[i].replace("#", "" + most[i]), "0");
            Checks.dueErrorAtMark(5, ROAD + lists[i].replace("#", "^" + (most[i] + 1)));
            Checks.dueErrorAtMark(5, ROAD + lists[i].replace("#", "^999999"));
            if (least[i] > 0) {
                Checks.dueErrorAtMark(5, ROAD + lists[i].replace("#", "^0"));
            }
        }
        StringBuilder longest = new StringBuilder();
        for (int i = 0; i < 5; i++) {
            longest.append("stretch s").append(i).append(" miles 9 soft 1;");
        }
        Checks.dueError(longest + "gate h at 44 toll 1;", "0");
        Checks.dueErrorAtMark(5, longest + "gate h at ^45 toll 1;");
        Checks.dueErrorAtMark(5, "gate h at ^0 toll 1; stretch a miles 1 soft 1;");
    }

    private static void firstErrorIsTold() {
        Checks.dueErrorAtMark(1, "stretch a miles 0 soft 1; stretch a miles 1 soft 1; mend q with 1^");
        Checks.dueErrorAtMark(5, "stretch a miles ^0 soft 1; stretch a miles 1 soft 1;");
        Checks.dueErrorAtMark(3, ROAD + "free ^q at z when 1 = 1; gate g at 99 toll 99;");
        Checks.dueErrorAtMark(2, ROAD + "gate ^g at 99 toll 99;");
    }

    private static void count() {
        TollTrustees x = Checks.taught("stretch a miles 3 soft 9; stretch b miles 2 soft 0; gate g at 1 toll 7; "
                + "traffic t weight 60 wheels 6 from 0 to 1 every 1; farm g for 10 when day = 0; "
                + "mend a with 4 when day = 0;");
        Checks.feed(x, "abc");
        x.pass(1);
        // 90 of wear on miles 0 and 1, 7 to the farmer, 10 of rent, 4 coins for the miles of 10
        int[] due = {1, 206, 2, 5, 1, 1, 2, 100 + 200 + 10 + 10 + 16, 0, 7, -3, 4, 3};
        for (int what = 0; what < due.length; what++) {
            int asked = what;
            Checks.due("count(" + what + ")", due[what], () -> x.count(asked));
        }
        x.pass(1);
        Checks.due("broken miles", 2, () -> x.count(8));
        Checks.dueOutside("count(-1)", x, () -> x.count(-1));
        Checks.dueOutside("count(13)", x, () -> x.count(13));
        Checks.dueOutside("count(2147483647)", x, () -> x.count(Integer.MAX_VALUE));
    }
}
