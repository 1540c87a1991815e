import java.util.ArrayList;
import java.util.List;

/** The boundary cases that the document names in "Terms" and in "1. The language", sentence by sentence. */
final class LanguageBounds {
    private static final String STRETCH = "stretch a miles 1 soft 1;";
    private static final String ROAD = "stretch s miles 2 soft 1; gate g at 0 toll 1; "
            + "traffic t weight 1 wheels 6 from 0 to 1 every 1; ";
    private static final int MAX = Integer.MAX_VALUE;
    private static final int MIN = Integer.MIN_VALUE;

    private LanguageBounds() {
    }

    static void check() {
        sumsAndDifferencesWrapAround();
        productsWrapAround();
        quotients();
        divisionByNothing();
        divisionOfTheLeastNumber();
        positions();
        days();
        tapeAtItsMost();
        tapeBehindTeach();
        tokensAndBlanks();
        blanksThatHaveToStand();
        longestToken();
        words();
        numbers();
        symbols();
        keywords();
        emptyList();
        whatMayBeLeftOut();
        depthOfEach();
        depthOfSeveral();
        depthEnds();
        firstWrongToken();
        bytesOfNoToken();
        endOfTheTape();
        mostTokens();
        errorOneComesFirst();
        fromLeftToRight();
        smallestErrorAtOneToken();
        toldTwice();
        notTold();
        tooManyNames();
        tooManyOrders();
        outOfRange();
        mileNotTold();
        numberedInTheirOrder();
    }

    // ---- Terms

    /** Whether a test holds, told by a traffic that is free then. */
    static void dueHolds(String test, boolean holds) {
        TollTrustees x = Checks.taught(ROAD + "free t at g when " + test + ";");
        Checks.due("paid, free if " + test, holds ? 0 : 1, () -> x.journey(0, 0));
    }

    /** Any number as a sum in which nothing wraps around. */
    static String written(int number) {
        if (number == MIN) {
            return "(" + written(-MAX) + " - 1)";
        }
        if (number < 0) {
            return "-" + written(-number);
        }
        return number <= 999999 ? "" + number : "(" + number / 999999 + " * 999999 + " + number % 999999 + ")";
    }

    private static void dueValue(String sum, int due) {
        dueHolds(sum + " = " + written(due), true);
        dueHolds(sum + " < " + written(due), false);
        dueHolds(sum + " > " + written(due), false);
    }

    private static void dueValue(int left, String sign, int right, int due) {
        dueValue(written(left) + " " + sign + " " + written(right), due);
    }

    private static void sumsAndDifferencesWrapAround() {
        Document.says("sums, differences and products of the language wrap around in 32 bits");
        dueValue(MAX, "+", 0, MAX);
        dueValue(MAX - 1, "+", 1, MAX);
        dueValue(MAX, "+", 1, MIN);
        dueValue(MAX, "+", 2, -MAX);
        dueValue(MAX, "+", MAX, -2);
        dueValue(MIN, "+", MAX, -1);
        dueValue(MIN, "+", -1, MAX);
        dueValue(MIN, "+", MIN, 0);
        dueValue(MIN, "-", 0, MIN);
        dueValue(MIN, "-", 1, MAX);
        dueValue(MIN, "-", 2, MAX - 1);
        dueValue(MIN, "-", MIN, 0);
        dueValue(MIN, "-", MAX, 1);
        dueValue(MAX, "-", -1, MIN);
        dueValue(MAX, "-", MIN, -1);
        dueValue(0, "-", MAX, -MAX);
        dueValue(-1, "-", MAX, MIN);
        dueValue(-2, "-", MAX, MAX);
        dueValue(0, "-", MIN, MIN);
        dueValue(-1, "-", MIN, MAX);
        dueValue("-" + written(MIN), MIN);
        dueValue("-" + written(MAX), -MAX);
        dueValue("-" + written(-MAX), MAX);
        dueValue("-0", 0);
    }

    private static void productsWrapAround() {
        Document.says("sums, differences and products of the language wrap around in 32 bits");
        dueValue(46340, "*", 46340, 2147395600);
        dueValue(46341, "*", 46341, -2147479015);
        dueValue(32768, "*", 65535, 2147450880);
        dueValue(32768, "*", 65536, MIN);
        dueValue(-32768, "*", 65536, MIN);
        dueValue(65536, "*", 65536, 0);
        dueValue(65537, "*", 65537, 131073);
        dueValue(999999, "*", 999999, -729379967);
        dueValue(MAX, "*", 2, -2);
        dueValue(MAX, "*", MAX, 1);
        dueValue(MAX, "*", -1, -MAX);
        dueValue(MAX, "*", MIN, MIN);
        dueValue(MIN, "*", 1, MIN);
        dueValue(MIN, "*", -1, MIN);
        dueValue(MIN, "*", 2, 0);
        dueValue(MIN, "*", MIN, 0);
        dueValue(MIN, "*", 0, 0);
    }

    private static void quotients() {
        Document.says("/ is cut towards 0");
        dueValue(6, "/", 3, 2);
        dueValue(7, "/", 2, 3);
        dueValue(-7, "/", 2, -3);
        dueValue(7, "/", -2, -3);
        dueValue(-7, "/", -2, 3);
        dueValue(1, "/", 2, 0);
        dueValue(-1, "/", 2, 0);
        dueValue(1, "/", -2, 0);
        dueValue(0, "/", 5, 0);
        dueValue(MAX, "/", MAX, 1);
        dueValue(MAX, "/", MIN, 0);
        dueValue(MIN, "/", MAX, -1);
        dueValue(MIN, "/", MIN, 1);
        dueValue(MIN, "/", 1, MIN);
        dueValue(MIN, "/", 2, -1073741824);
    }

    private static void divisionByNothing() {
        Document.says("gives 0 with 0 on the right side");
        for (int left : new int[] {0, 1, -1, 999999, MAX, MIN}) {
            dueValue(left, "/", 0, 0);
        }
        dueValue("5 / (3 - 3) + 4", 4);
        dueValue("5 / (1 / 2)", 0);
        dueValue("-5 / -0", 0);
        TollTrustees x = Checks.taught("stretch a miles 1 soft 9; traffic t weight 60 wheels 6 from 0 to 0 every 30; "
                + "mend a with day / day + 7 when 1 / day = 0;");
        x.pass(1);
        Checks.due("7 coins for the mile of 10", 38, () -> x.mile(0, 1));
    }

    private static void divisionOfTheLeastNumber() {
        Document.says("-2147483648 / -1 gives -2147483648");
        dueValue(MIN, "/", -1, MIN);
        dueValue(-MAX, "/", -1, MAX);
        dueValue(MAX, "/", -1, -MAX);
        dueValue(MIN, "/", -2, 1073741824);
        dueValue("32768 * 65536 / -1", MIN);
        dueValue("32768 * 65536 / (1 - 2) / -1", MIN);
    }

    private static void positions() {
        Document.says("Positions of the tape are counted from 0, in bytes.");
        Checks.dueErrorAtMark(1, "^;");
        Checks.dueErrorAtMark(1, " ^;");
        Checks.dueErrorAtMark(1, "\n\n^;");
        Checks.dueErrorAtMark(1, "^\u00ff");
        Checks.dueErrorAtMark(1, "stretch ^\u00e4");
        Checks.dueErrorAtMark(1, " ".repeat(1999) + "^;");
        Checks.dueErrorAtMark(1, " ".repeat(1993) + "stretch^");
    }

    private static void days() {
        Document.says("Time is told in days, from 0.");
        TollTrustees x = Checks.taught(ROAD + "free t at g when day > 0;");
        Checks.due("count(0) of a new road", 0, () -> x.count(0));
        Checks.due("day of a new road", 1, () -> x.journey(0, 0));
        x.pass(1);
        Checks.due("count(0) behind a day", 1, () -> x.count(0));
        Checks.due("day behind a day", 0, () -> x.journey(0, 0));
    }

    // ---- the tape

    private static void tapeAtItsMost() {
        Document.says("The tape is a row of at most 2000 bytes, at first empty, which feed and trim fill");
        TollTrustees x = new TollTrustees();
        Checks.due("bytes of a new tape", 0, () -> x.count(12));
        Checks.feed(x, " ".repeat(2000 - STRETCH.length()) + STRETCH);
        Checks.due("bytes of a full tape", 2000, () -> x.count(12));
        Checks.due("one is refused", IllegalStateException.class, () -> x.feed(0, 0, 0, 0, 0));
        Checks.due("bytes still", 2000, () -> x.count(12));
        Checks.due("the last byte is read", 0, x::teach);
        Checks.due("and a mile told", 1, () -> x.count(3));
        Checks.feed(x, " ".repeat(2000 - STRETCH.length()) + STRETCH);
        x.trim(1999);
        Checks.due("without its last byte", 1, x::teach);
        Checks.due("it ends there", 1999, x::errorAt);
        Checks.dueErrorAtMark(1, STRETCH + " ".repeat(1999 - STRETCH.length()) + "^;");
        Checks.dueErrorAtMark(1, "stretch a miles 1 soft 1" + " ".repeat(1976) + "^");
        Checks.dueError(STRETCH + " ".repeat(2000 - STRETCH.length()), "0");
        Checks.dueError(" ".repeat(2000), "0");
    }

    private static void tapeBehindTeach() {
        Document.says("teach reads it as a list, and it is empty behind it.");
        String[] lists = {STRETCH, "stretch", STRETCH + STRETCH, "mend a with 1;",
            STRETCH + "mend a with 1;".repeat(21), "stretch a miles 0 soft 1;"};
        for (int error = 0; error < lists.length; error++) {
            String list = lists[error];
            TollTrustees x = new TollTrustees();
            Checks.due("teach: " + list, error, () -> Checks.teach(x, list));
            Checks.due("bytes behind: " + list, 0, () -> x.count(12));
            Checks.due("feed behind: " + list, 20, () -> x.feed(0x20202020, 0x20202020, 0x20202020, 0x20202020, 0x20202020));
            Checks.due("what was read is gone: " + list, 0, x::teach);
            Checks.due("no miles behind: " + list, 0, () -> x.count(3));
        }
    }

    // ---- tokens

    private static boolean isBlank(char sign) {
        return sign == 32 || sign == 10;
    }

    private static boolean isDigit(char sign) {
        return sign >= '0' && sign <= '9';
    }

    private static boolean isLetter(char sign) {
        return sign >= 'a' && sign <= 'z';
    }

    private static void tokensAndBlanks() {
        Document.says("Blanks (32) and line ends (10) can stand between tokens, at the beginning and at the end");
        for (char sign = 0; sign < 256; sign++) {
            boolean isBlank = isBlank(sign);
            boolean goesOn = isLetter(sign) || isDigit(sign);
            Checks.dueError(sign + STRETCH, isBlank ? "0" : "1@0");
            Checks.dueError(STRETCH + sign, isBlank ? "0" : "1@25");
            Checks.dueError("stretch a" + sign + "miles 1 soft 1;", isBlank ? "0" : goesOn ? "1@16" : "1@9");
            Checks.dueError("stretch a miles 1" + sign + " soft 1;",
                    isBlank ? "0" : isDigit(sign) ? "5@16" : "1@17");
        }
        Checks.dueError("stretch a miles 1 soft 1; stretch\nb miles 1 soft 1; mend\na with worst  b + worst \nb;", "0");
        Checks.dueErrorAtMark(2, STRETCH + "stretch\n^a miles 1 soft 1;");
        Checks.dueErrorAtMark(2, "stretch\na miles 1 soft 1; stretch  ^a miles 1 soft 1;");
        Checks.dueError(" \n \n" + STRETCH.replace(" ", " \n\n ").replace(";", "\n;") + "\n \n", "0");
    }

    private static void blanksThatHaveToStand() {
        Document.says("and have to stand between two tokens that would otherwise be read as one.");
        Checks.dueErrorAtMark(1, "^stretcha miles 1 soft 1;");
        Checks.dueErrorAtMark(1, "stretch amiles ^1 soft 1;");
        Checks.dueErrorAtMark(1, "stretch a ^miles1 soft 1;");
        Checks.dueError("stretch a miles 1soft 1;", "0");
        Checks.dueError(ROAD + "mend s with 1when 1=1;mend s with(1)when[1=1]and 1<=2or 2>=1;", "0");
        Checks.dueErrorAtMark(1, ROAD + "mend s with 1 when 1 < ^= 2;");
        Checks.dueErrorAtMark(1, ROAD + "mend s with 1 when 1 > ^= 2;");
        Checks.dueErrorAtMark(1, ROAD + "mend s with 1 ^2;");
    }

    private static void longestToken() {
        Document.says("The longest possible token is always read.");
        dueHolds("1<=1", true);
        dueHolds("1>=1", true);
        dueHolds("2<=1", false);
        dueHolds("1>=2", false);
        dueHolds("12=12", true);
        Checks.dueErrorAtMark(1, ROAD + "mend s with 1 when 1=^<2;");
        Checks.dueErrorAtMark(1, ROAD + "mend s with 1 when 1=^>2;");
        Checks.dueErrorAtMark(1, ROAD + "mend s with 1 when 1<=^=2;");
        Checks.dueErrorAtMark(1, ROAD + "mend s with 1 when 1<^>2;");
        Checks.dueErrorAtMark(1, ROAD + "mend s with ^day1;");
        Checks.dueErrorAtMark(1, ROAD + "mend s with ^minx(1, 2);");
        Checks.dueErrorAtMark(1, ROAD + "mend s with 1 when ^notfarmed g;");
        Checks.dueError("stretch to1 miles 1 soft 1; mend to1 with worst to1;", "0");
    }

    private static void words() {
        Document.says("A word: a letter a to z, followed by letters a to z and digits, at most 10 bytes.");
        for (char sign = 0; sign < 256; sign++) {
            boolean follows = isLetter(sign) || isDigit(sign);
            Checks.dueError("stretch " + sign + " miles 1 soft 1;",
                    isLetter(sign) ? "0" : isBlank(sign) ? "1@10" : "1@8");
            Checks.dueError("stretch b" + sign + "y miles 1 soft 1;", follows ? "0" : isBlank(sign) ? "1@10" : "1@9");
        }
        for (String name : List.of("a", "z", "a0", "z9", "abcdefghij", "z123456789", "zzzzzzzzzz")) {
            Checks.dueError("stretch " + name + " miles 1 soft 1;gate " + name + " at 0 toll 1;farm " + name
                    + " for 1 when broken " + name + ";", "0");
        }
        for (String name : List.of("abcdefghijk", "z1234567890", "a".repeat(12), "a".repeat(1000), "condition00",
                "conditionss")) {
            Checks.dueErrorAtMark(1, "stretch ^" + name + " miles 1 soft 1;");
            Checks.dueErrorAtMark(1, ROAD + "mend s with worst ^" + name + ";");
            Checks.dueErrorAtMark(1, "^" + name);
        }
        Checks.dueErrorAtMark(2, "stretch abcdefghij miles 1 soft 1;stretch ^abcdefghij miles 1 soft 1;");
        Checks.dueError("stretch abcdefghij miles 1 soft 1;stretch abcdefghik miles 1 soft 1;"
                + "stretch bbcdefghij miles 1 soft 1;stretch abcdefghi miles 1 soft 1;", "0");
    }

    private static void numbers() {
        Document.says("A number: 1 to 6 digits.");
        for (String number : List.of("1", "01", "000001")) {
            Checks.dueError("stretch a miles " + number + " soft 1;", "0");
        }
        for (String number : List.of("0000001", "1000000", "9999999", "1".repeat(1000))) {
            Checks.dueErrorAtMark(1, "stretch a miles ^" + number + " soft 1;");
            Checks.dueErrorAtMark(1, ROAD + "mend s with ^" + number + ";");
        }
        dueHolds("999999 = 333333 * 3", true);
        dueHolds("000000 = 0", true);
        dueHolds("010 = 10", true);
        dueHolds("123456 = 123 * 1000 + 456", true);
        Checks.dueErrorAtMark(1, "stretch a miles ^soft 1;");
    }

    private static void symbols() {
        Document.says("Symbols: ( ) [ ] ; , + - * / < > = <= >=");
        dueHolds("[min((9), 4 + 3 - 2 * 6 / 3) = 3] and 1 < 2 and 2 > 1 and 1 <= 1 and 1 >= 1", true);
        for (String no : List.of("!", "\"", "#", "$", "%", "&", "'", ".", ":", "?", "@", "\\", "_", "`", "{", "|", "}",
                "~", "A", "Z", "\u0000", "\u001f", "\u007f", "\u0080", "\u00ff")) {
            Checks.dueErrorAtMark(1, ROAD + "mend s with 1 ^" + no + " 2;");
            Checks.dueErrorAtMark(1, ROAD + "mend s with ^" + no + ";");
        }
        for (String two : List.of("=<", "=>", "<>", "==", "<<", ">>")) {
            Checks.dueErrorAtMark(1, ROAD + "mend s with 1 when 1 " + two.charAt(0) + "^" + two.charAt(1) + " 2;");
        }
    }

    private static void keywords() {
        Document.says("The keywords are: stretch miles soft gate at toll traffic weight wheels from to every free farm for "
                + "mend with when day coins worst condition taken gain passed farmed broken not and or min max. "
                + "All other words are names.");
        for (String word : ("stretch miles soft gate at toll traffic weight wheels from to every free farm for mend with "
                + "when day coins worst condition taken gain passed farmed broken not and or min max").split(" ")) {
            Checks.dueErrorAtMark(1, "stretch ^" + word + " miles 1 soft 1;");
            Checks.dueErrorAtMark(1, STRETCH + "gate ^" + word + " at 0 toll 1;");
            Checks.dueErrorAtMark(1, STRETCH + "traffic ^" + word + " weight 1 wheels 1 from 0 to 0 every 1;");
            Checks.dueErrorAtMark(1, ROAD + "mend ^" + word + " with 1;");
        }
        for (String name : List.of("mile", "gates", "fre", "all", "a", "if", "days", "coin", "worse", "maxi", "mi", "x")) {
            Checks.dueError("stretch " + name + " miles 1 soft 1;", "0");
        }
    }

    // ---- the grammar

    private static void emptyList() {
        Document.says("list = { line \";\" }");
        Checks.dueError("", "0");
        Checks.dueError("\n", "0");
        Checks.dueErrorAtMark(1, "^;");
        Checks.dueErrorAtMark(1, STRETCH + "^;");
        Checks.dueErrorAtMark(1, "stretch a miles 1 soft 1^");
        Checks.dueErrorAtMark(1, "stretch a miles 1 soft 1 ^stretch b miles 1 soft 1;");
    }

    private static void whatMayBeLeftOut() {
        Document.says("[ x ] outside of quotation marks means x or nothing, { x } x any number of times, also none");
        Checks.dueError(ROAD + "mend s with 1;", "0");
        Checks.dueError(ROAD + "mend s with 1 when 1 = 1;", "0");
        Checks.dueErrorAtMark(1, ROAD + "mend s with 1 when^;");
        Checks.dueErrorAtMark(1, ROAD + "mend s with 1 when 1 = 1 ^when 1 = 1;");
        Checks.dueErrorAtMark(1, ROAD + "free t at g^;");
        Checks.dueErrorAtMark(1, ROAD + "farm g for 1^;");
        Checks.dueErrorAtMark(1, ROAD + "mend s with^;");
        for (String token : ("stretch miles day coins worst farmed not and or when min ( ) [ ] ; , name 5").split(" ")) {
            Checks.dueErrorAtMark(1, ROAD + "mend s with 1 when 1 ^" + token + " 2;");
            Checks.dueErrorAtMark(1, ROAD + "mend s with 1 when [1 ^" + token + " 2];");
        }
        dueHolds("1 = 1", true);
        dueHolds("1 = 2 or 1 = 3 or 1 = 4 or 1 = 1", true);
        dueHolds("1 = 1 and 2 = 2 and 3 = 3 and 4 = 5", false);
        dueHolds("1 + 1 - 1 + 1 - 1 = 1 * 2 * 3 / 6 / 1", true);
    }

    // ---- the depth

    private static final String[] OPENERS = {"(", "condition(", "min(", "max(", "min(2, ", "-"};
    private static final String[] CLOSERS = {")", ")", ", 1)", ", 1)", ")", ""};

    private static void dueDepth(String ahead, String opener, String inner, String closer, String behind, int most) {
        int place = Math.max(0, opener.indexOf('('));
        String marked = opener.substring(0, place) + "^" + opener.substring(place);
        String start = ROAD + ahead + opener.repeat(most);
        Checks.dueError(start + inner + closer.repeat(most) + behind, "0");
        Checks.dueErrorAtMark(1, start + marked + inner + closer.repeat(most + 1) + behind);
        Checks.dueErrorAtMark(1, start + marked + opener + inner + closer.repeat(most + 2) + behind);
    }

    private static void depthOfEach() {
        Document.says("It is 0 at the beginning, and 1 greater between a ( and its ), a [ and its ], behind a - in front "
                + "(of a value) for what it turns, and behind a not for what it turns. It may be at most 8.");
        Document.says("the (, [, - or not behind which the depth would be 9");
        for (int i = 0; i < OPENERS.length; i++) {
            dueDepth("mend s with ", OPENERS[i], "1", CLOSERS[i], ";", 8);
            dueDepth("mend s with 1 - ", OPENERS[i], "1", CLOSERS[i], ";", 8);
            dueDepth("mend s with 1 when 1 = ", OPENERS[i], "1", CLOSERS[i], ";", 8);
            dueDepth("mend s with 1 when not 1 = ", OPENERS[i], "1", CLOSERS[i], ";", 7);
            dueDepth("mend s with 1 when [not [", OPENERS[i], "1", CLOSERS[i], " = 1]];", 5);
        }
        dueDepth("mend s with 1 when ", "[", "1 = 1", "]", ";", 8);
        dueDepth("mend s with 1 when ", "not ", "1 = 1", "", ";", 8);
        dueDepth("mend s with 1 when not ", "[", "1 = 1", "]", ";", 7);
        dueDepth("free t at g when not [", "not ", "farmed g", "", "];", 6);
        dueDepth("farm g for 1 when 1 = 1 or ", "[", "broken s", "]", ";", 8);
    }

    private static void depthOfSeveral() {
        Document.says("It may be at most 8.");
        for (int nots = 0; nots <= 8; nots++) {
            for (int tests = 0; nots + tests <= 8; tests++) {
                for (int sums = 0; nots + tests + sums <= 8; sums++) {
                    int turns = 8 - nots - tests - sums;
                    String ahead = ROAD + "mend s with 1 when " + "not ".repeat(nots) + "[".repeat(tests)
                            + "1 < " + "(".repeat(sums) + "-".repeat(turns);
                    String behind = ")".repeat(sums) + "]".repeat(tests) + ";";
                    Checks.dueError(ahead + "1" + behind, "0");
                    Checks.dueErrorAtMark(1, ahead + "^(1)" + behind);
                    Checks.dueErrorAtMark(1, ahead + "^-1" + behind);
                }
            }
        }
        Checks.dueErrorAtMark(1, ROAD + "mend s with 1 when [[[[not not not not ^[1 = 1]]]]];");
        Checks.dueErrorAtMark(1, ROAD + "mend s with 1 when [[[[not not not not ^not 1 = 1]]]];");
    }

    private static void depthEnds() {
        Document.says("1 greater between a ( and its ), a [ and its ], behind a - in front (of a value) for what it turns, "
                + "and behind a not for what it turns.");
        String seven = "(".repeat(7) + "1" + ")".repeat(7);
        String eight = "(" + seven + ")";
        String eighthIsTooMuch = "(".repeat(7) + "^(1" + ")".repeat(8);
        Checks.dueError(ROAD + "mend s with " + eight + " + " + eight + " * " + eight + ";", "0");
        Checks.dueError(ROAD + "mend s with --------1 + --------1 * --------1 - --------1;", "0");
        Checks.dueError(ROAD + "mend s with -1 * " + eight + ";", "0");
        Checks.dueError(ROAD + "mend s with -" + seven + ";", "0");
        Checks.dueErrorAtMark(1, ROAD + "mend s with -" + eighthIsTooMuch + ";");
        Checks.dueError(ROAD + "mend s with condition(1) + min(1, 2) + " + eight + ";", "0");
        Checks.dueError(ROAD + "mend s with min(" + seven + ", " + seven + ");", "0");
        Checks.dueErrorAtMark(1, ROAD + "mend s with max(" + eighthIsTooMuch + ", 1);");
        Checks.dueErrorAtMark(1, ROAD + "mend s with max(" + seven + ", " + eighthIsTooMuch + ");");
        Checks.dueError(ROAD + "mend s with " + eight + " when [[[[[[[[1 = 1]]]]]]]] and " + eight + " = 1;", "0");
        Checks.dueError(ROAD + "mend s with 1 when " + "not ".repeat(8) + "1 = 1 and " + "not ".repeat(8) + "1 = 1 or "
                + eight + " = 1;", "0");
        Checks.dueError(ROAD + "mend s with 1 when not 1 = " + seven + ";", "0");
        Checks.dueErrorAtMark(1, ROAD + "mend s with 1 when not 1 = " + eighthIsTooMuch + ";");
        Checks.dueErrorAtMark(1, ROAD + "mend s with 1 when not " + eighthIsTooMuch + " = 1;");
        Checks.dueError(ROAD + "mend s with 1 when not [1 = 1] and 1 = " + eight + ";", "0");
        Checks.dueErrorAtMark(1, ROAD + "mend s with 1 when [1 = 1 or 1 = " + eighthIsTooMuch + "];");
    }

    // ---- error 1

    private static void firstWrongToken() {
        Document.says("Error 1: the first token with which the tokens so far are not the beginning of a list.");
        Document.says("The position is that of its first byte.");
        Checks.dueErrorAtMark(1, "stretch a ^soft 1 miles x;");
        Checks.dueErrorAtMark(1, ROAD + "mend s with 1 ^<= 2;");
        Checks.dueErrorAtMark(1, ROAD + "mend s with ^>=;");
        Checks.dueErrorAtMark(1, ROAD + "mend s ^abcdefghij 1;");
        Checks.dueErrorAtMark(1, ROAD + "mend s with 1 ^123456;");
        Checks.dueErrorAtMark(1, ROAD + "mend s with 1 ^) !;");
        Checks.dueErrorAtMark(1, ROAD + "mend s with 1 + ^* " + "(".repeat(9) + "1;");
    }

    private static void bytesOfNoToken() {
        Document.says("This includes a byte with which no token begins, a word or number that is too long");
        Checks.dueErrorAtMark(1, "^!");
        Checks.dueErrorAtMark(1, STRETCH + " ^\u0000");
        Checks.dueErrorAtMark(1, STRETCH + "\n^\u0080");
        Checks.dueErrorAtMark(1, "stretch a^B miles 1 soft 1;");
        Checks.dueErrorAtMark(1, "^abcdefghijk");
        Checks.dueErrorAtMark(1, "stretch a ^abcdefghijk");
        Checks.dueErrorAtMark(1, "stretch a miles ^1234567");
        Checks.dueErrorAtMark(1, STRETCH + "^1234567");
    }

    private static void endOfTheTape() {
        Document.says("the end of the tape (at its length)");
        List<String> tokens = new ArrayList<>(List.of((ROAD + "free t at g when not [ farmed g or 1 < - ( 2 ) ] ; "
                + "mend s with min ( 1 , condition ( day ) ) when broken s ;").replace(";", " ;").split(" +")));
        StringBuilder list = new StringBuilder();
        for (String token : tokens) {
            boolean whole = list.length() == 0 || list.toString().endsWith("; ");
            Checks.dueError(list.toString(), whole ? "0" : "1@" + list.length());
            Checks.dueError(list.toString().trim(), whole ? "0" : "1@" + list.toString().trim().length());
            list.append(token).append(' ');
        }
        Checks.dueError(list.toString(), "0");
        Checks.dueError("stretch a miles 1 soft 1" + " ".repeat(1976), "1@2000");
    }

    private static void mostTokens() {
        Document.says("the token that would be the 401st (the end of the tape not counted)");
        // 7 tokens, 4 tokens, 2 for each + 1: 399 of them
        String open = STRETCH + "mend a with 1" + "+1".repeat(194);
        Checks.dueError(open + ";", "0");
        Checks.dueError(open + ";" + " \n".repeat(9), "0");
        Checks.dueErrorAtMark(1, open + "+^");
        Checks.dueErrorAtMark(1, open + "+  ^");
        Checks.dueErrorAtMark(1, open + "+^1;");
        Checks.dueErrorAtMark(1, open + "^)1;");
        Checks.dueErrorAtMark(1, open + " ^!");
        Checks.dueErrorAtMark(1, open + "+ ^!");
        Checks.dueErrorAtMark(1, open + "+ ^1234567;");
        Checks.dueErrorAtMark(1, open + "; ^stretch b miles 1 soft 1;");
        Checks.dueErrorAtMark(1, open + ";^;");
        Checks.dueErrorAtMark(1, STRETCH + "mend a with -1" + "+1".repeat(194) + "^;");
        Checks.dueErrorAtMark(1, STRETCH + "mend a with -1" + "+1".repeat(194) + "^");
        Checks.dueErrorAtMark(1, open + "+^1" + "+1".repeat(205) + ") !");
        // 7 tokens, 13 tokens, 5 tokens, 2 for each + 1 and the last ; are 400
        TollTrustees x = Checks.taught("stretch a miles 9 soft 9;traffic t weight 60 wheels 1 from 0 to 8 every 1;"
                + "mend a with -1" + "+1".repeat(187) + ";");
        x.pass(1);
        Checks.due("all of 400 tokens are reckoned", 186, () -> x.count(11));
    }

    // ---- errors 2 to 5

    private static void errorOneComesFirst() {
        Document.says("Only if there is no error 1, keywords, names and numbers are looked at from left to right");
        String[] others = {STRETCH + STRETCH, "mend q with 1;", "stretch a miles 0 soft 1;",
            STRETCH + "mend a with 1;".repeat(21)};
        for (String other : others) {
            Checks.dueErrorAtMark(1, other + "^!");
            Checks.dueErrorAtMark(1, other + "stretch^");
            Checks.dueErrorAtMark(1, other + "stretch ^abcdefghijk");
            Checks.dueErrorAtMark(1, other + "mend a with " + "(".repeat(8) + "^(1" + ")".repeat(9) + ";");
            Checks.dueErrorAtMark(1, other + "^;");
        }
        Checks.dueErrorAtMark(1, "mend q with 1" + "+1".repeat(198) + "^;");
        Checks.dueErrorAtMark(3, "mend ^q with 1" + "+1".repeat(197) + ";");
    }

    private static void fromLeftToRight() {
        Document.says("and the first error is told, at its token");
        StringBuilder all = new StringBuilder();
        for (int i = 0; i < 5; i++) {
            all.append("stretch s").append(i).append(" miles 1 soft 1;");
        }
        String orders = "mend s0 with 1;".repeat(20);
        String[] wrong = {"stretch ^s4 miles 1 soft 1;", "stretch ^b miles 1 soft 1;", "gate h at 0 toll ^61;",
            "mend ^q with 1;"};
        int[] errors = {2, 4, 5, 3};
        for (int first = 0; first < wrong.length; first++) {
            for (String second : wrong) {
                Checks.dueErrorAtMark(errors[first], all + wrong[first] + second.replace("^", ""));
            }
            Checks.dueErrorAtMark(4, all + orders + "^mend s1 with 1;" + wrong[first].replace("^", ""));
            String first21st = wrong[first].startsWith("mend") ? "^mend q with 1;" : wrong[first] + "mend s1 with 1;";
            Checks.dueErrorAtMark(first21st.startsWith("^") ? 4 : errors[first], all + orders + first21st);
        }
        Checks.dueErrorAtMark(3, ROAD + "mend ^q with 1; gate g at 99 toll 99;");
        Checks.dueErrorAtMark(2, ROAD + "gate ^g at 99 toll 99; mend q with 1;");
        Checks.dueErrorAtMark(5, ROAD + "gate h at ^99 toll 99; gate h at 0 toll 1; mend q with 1;");
        Checks.dueErrorAtMark(3, ROAD + "farm ^q for 1000 when 1 = passed z;");
        Checks.dueErrorAtMark(5, ROAD + "farm g for ^1000 when 1 = passed z;");
        Checks.dueErrorAtMark(3, ROAD + "farm g for 999 when 1 = passed ^z;");
        Checks.dueErrorAtMark(3, ROAD + "free ^y at z when farmed q;");
        Checks.dueErrorAtMark(3, ROAD + "free t at ^z when farmed q;");
        Checks.dueErrorAtMark(5, "stretch a miles ^0 soft 10;");
        Checks.dueErrorAtMark(5, "stretch a miles 1 soft ^10; mend a with 1;");
    }

    private static void smallestErrorAtOneToken() {
        Document.says("of errors at one token the one with the smallest number");
        String full = fullNames();
        for (int i = 0; i < 5; i++) {
            Checks.dueErrorAtMark(2, full + "stretch ^n" + i + " miles 1 soft 1;");
            Checks.dueErrorAtMark(2, full + "gate ^n" + i + " at 0 toll 1;");
        }
        for (int i = 0; i < 8; i++) {
            Checks.dueErrorAtMark(2, full + "traffic ^n" + i + " weight 1 wheels 1 from 0 to 0 every 1;");
        }
    }

    /** As many stretches, gates and traffics as there may be, each with the names n0, n1 and so on. */
    private static String fullNames() {
        StringBuilder all = new StringBuilder();
        for (int i = 0; i < 5; i++) {
            all.append("stretch n").append(i).append(" miles 1 soft 1;");
        }
        for (int i = 0; i < 5; i++) {
            all.append("gate n").append(i).append(" at 0 toll 1;");
        }
        for (int i = 0; i < 8; i++) {
            all.append("traffic n").append(i).append(" weight 1 wheels 1 from 0 to 0 every 1;");
        }
        return all.toString();
    }

    private static void toldTwice() {
        Document.says("Error 2: the name behind stretch, gate or traffic (at the beginning of a line) is that of one of the "
                + "same sort told ahead.");
        Checks.dueErrorAtMark(2, ROAD + "stretch ^s miles 1 soft 1;");
        Checks.dueErrorAtMark(2, ROAD + "gate ^g at 0 toll 1;");
        Checks.dueErrorAtMark(2, ROAD + "traffic ^t weight 1 wheels 1 from 0 to 0 every 1;");
        Checks.dueError(ROAD + "stretch g miles 1 soft 1; gate s at 0 toll 1; gate t at 0 toll 1; stretch t miles 1 soft 1;"
                + "traffic g weight 1 wheels 1 from 0 to 0 every 1; traffic s weight 1 wheels 1 from 0 to 0 every 1;", "0");
        Checks.dueError(ROAD + "stretch s0 miles 1 soft 1; gate gg at 0 toll 1;", "0");
        Checks.dueErrorAtMark(2, STRETCH + "stretch b miles 1 soft 1; stretch ^a miles 1 soft 1;");
        Checks.dueErrorAtMark(2, STRETCH + "stretch b miles 1 soft 1; stretch ^b miles 1 soft 1;");
    }

    private static final String[] OF_STRETCHES = {"mend # with 1;", "mend s with worst #;", "mend s with 1 when broken #;"};
    private static final String[] OF_GATES = {"free t at # when 1 = 1;", "farm # for 1 when 1 = 1;", "mend s with taken #;",
        "mend s with gain #;", "mend s with 1 when farmed #;"};
    private static final String[] OF_TRAFFICS = {"free # at g when 1 = 1;", "mend s with passed #;"};
    private static final String[] TELLINGS = {"stretch z miles 1 soft 1;", "gate z at 0 toll 1;",
        "traffic z weight 1 wheels 1 from 0 to 0 every 1;"};

    private static void dueOnly(int sort, String... orders) {
        String[] names = {"s", "g", "t"};
        for (String order : orders) {
            for (int i = 0; i < names.length; i++) {
                String list = ROAD + order;
                if (i == sort) {
                    Checks.dueError(list.replace("#", names[i]), "0");
                    Checks.dueError(ROAD + TELLINGS[i] + order.replace("#", "z"), "0");
                } else {
                    Checks.dueErrorAtMark(3, list.replace("#", "^" + names[i]));
                    Checks.dueErrorAtMark(3, ROAD + TELLINGS[i] + order.replace("#", "^z"));
                }
                Checks.dueErrorAtMark(3, list.replace("#", "^z") + TELLINGS[i]);
            }
        }
    }

    private static void notTold() {
        Document.says("Error 3: another name is none of what it has to be, told ahead: behind mend, worst and broken, of a "
                + "stretch; behind at (of a free), farm, taken, gain and farmed, of a gate; behind free and passed, "
                + "of a traffic.");
        dueOnly(0, OF_STRETCHES);
        dueOnly(1, OF_GATES);
        dueOnly(2, OF_TRAFFICS);
    }

    private static void tooManyNames() {
        Document.says("Error 4: the name of the 6th stretch, of the 6th gate or of the 9th traffic");
        String full = fullNames();
        Checks.dueError(full, "0");
        Checks.dueErrorAtMark(4, full + "stretch ^x miles 0 soft 99;");
        Checks.dueErrorAtMark(4, full + "gate ^x at 99 toll 99;");
        Checks.dueErrorAtMark(4, full + "traffic ^x weight 0 wheels 0 from 99 to 99 every 0;");
        TollTrustees x = Checks.taught(full);
        Checks.due("stretches", 5, () -> x.count(2));
        Checks.due("gates", 5, () -> x.count(4));
        Checks.due("traffics", 8, () -> x.count(5));
        Checks.due("gates at mile 0", 5, () -> x.mile(0, 2));
        Checks.due("traffics by the last gate", 8, () -> x.gate(4, 5));
    }

    private static void tooManyOrders() {
        Document.says("or the free, farm or mend of the 21st order (of all three together).");
        String[] orders = {"free t at g when 1 = 2;", "farm g for 1 when 1 = 2;", "mend s with 0;"};
        String mixed = ROAD + orders[0].repeat(6) + orders[1].repeat(7) + orders[2].repeat(7);
        for (String order : orders) {
            Checks.dueError(ROAD + order.repeat(20), "0");
            Checks.dueErrorAtMark(4, ROAD + order.repeat(20) + "^" + order);
            Checks.dueErrorAtMark(4, ROAD + order.repeat(20) + "^" + order + order);
            Checks.dueErrorAtMark(4, mixed + "^" + order);
            Checks.dueErrorAtMark(4, mixed + "gate h at 1 toll 1; ^" + order);
        }
        TollTrustees x = Checks.taught(mixed);
        Checks.due("orders", 20, () -> x.count(6));
        TollTrustees last = Checks.taught(ROAD + orders[0].repeat(19) + "farm g for 7 when 1 = 1;");
        last.pass(1);
        Checks.due("the 20th holds", 7, () -> last.gate(0, 4));
    }

    private static final String[] NUMBERED = {"stretch z miles # soft 1;", "stretch z miles 1 soft #;",
        "gate z at # toll 1;", "gate z at 0 toll #;", "traffic z weight # wheels 1 from 0 to 0 every 1;",
        "traffic z weight 1 wheels # from 0 to 0 every 1;", "traffic z weight 1 wheels 1 from # to 0 every 1;",
        "traffic z weight 1 wheels 1 from 0 to # every 1;", "traffic z weight 1 wheels 1 from 0 to 0 every #;",
        "farm g for # when 1 = 1;"};

    private static void outOfRange() {
        Document.says("Error 5: a number is out of its range: miles 1 to 9, soft 0 to 9, at (of a gate), from and to 0 to 44, "
                + "toll 0 to 60, weight 1 to 60, wheels 1 to 16, every 1 to 30, for 0 to 999");
        int[] least = {1, 0, 0, 0, 1, 1, 0, 0, 1, 0};
        int[] most = {9, 9, 44, 60, 60, 16, 44, 44, 30, 999};
        StringBuilder road = new StringBuilder();
        for (int i = 0; i < 5; i++) {
            road.append("stretch s").append(i).append(" miles 9 soft 1;");
        }
        road.append("gate g at 44 toll 60;");
        for (int i = 0; i < NUMBERED.length; i++) {
            String list = (NUMBERED[i].startsWith("stretch") ? ROAD : road.toString()) + NUMBERED[i];
            Checks.dueError(list.replace("#", "" + least[i]), "0");
            Checks.dueError(list.replace("#", "00000" + least[i]), "0");
            Checks.dueError(list.replace("#", "" + (least[i] + 1)), "0");
            Checks.dueError(list.replace("#", "" + (most[i] - 1)), "0");
            Checks.dueError(list.replace("#", "" + most[i]), "0");
            Checks.dueErrorAtMark(5, list.replace("#", "^" + (most[i] + 1)));
            Checks.dueErrorAtMark(5, list.replace("#", "^999999"));
            if (least[i] > 0) {
                Checks.dueErrorAtMark(5, list.replace("#", "^" + (least[i] - 1)));
                Checks.dueErrorAtMark(5, list.replace("#", "^000000"));
            }
        }
        Checks.dueError(ROAD + "mend s with 999999 + 000000 when 999999 = 0;", "0");
    }

    private static void mileNotTold() {
        Document.says("or the at of a gate, the from or the to is not that of a mile told ahead.");
        Checks.dueErrorAtMark(5, "gate z at ^0 toll 1;" + STRETCH);
        Checks.dueErrorAtMark(5, "traffic z weight 1 wheels 1 from ^0 to 0 every 1;" + STRETCH);
        for (String line : new String[] {NUMBERED[2], NUMBERED[6], NUMBERED[7]}) {
            for (int miles = 1; miles <= 9; miles++) {
                String stretch = "stretch a miles " + miles + " soft 1;";
                Checks.dueError(stretch + line.replace("#", "" + (miles - 1)), "0");
                Checks.dueErrorAtMark(5, stretch + line.replace("#", "^" + miles));
                Checks.dueErrorAtMark(5, stretch + line.replace("#", "^" + miles)
                        + "stretch b miles 9 soft 1;");
                Checks.dueError(stretch + "stretch b miles 2 soft 1;" + line.replace("#", "" + (miles + 1)), "0");
                Checks.dueErrorAtMark(5, stretch + "stretch b miles 2 soft 1;"
                        + line.replace("#", "^" + (miles + 2)));
            }
        }
    }

    private static void numberedInTheirOrder() {
        Document.says("Stretches, gates, traffics and orders (lines with free, farm or mend) are numbered from 0 in the order "
                + "in which they are told. The miles of all stretches are numbered through, from 0, stretch by stretch.");
        TollTrustees x = Checks.taught("stretch z miles 2 soft 3; gate z at 1 toll 5; stretch a miles 9 soft 4; "
                + "traffic z weight 7 wheels 8 from 10 to 0 every 9; gate a at 10 toll 6; mend z with 0; "
                + "stretch m miles 1 soft 0; traffic a weight 1 wheels 2 from 11 to 11 every 3; farm a for 1 when 1 = 2;");
        int[] firstMiles = {0, 2, 11};
        int[] softs = {3, 4, 0};
        for (int i = 0; i < 3; i++) {
            int stretch = i;
            Checks.due("first mile of stretch " + i, firstMiles[i], () -> x.stretch(stretch, 2));
            Checks.due("soft of stretch " + i, softs[i], () -> x.stretch(stretch, 1));
        }
        for (int i = 0; i < 12; i++) {
            int mile = i;
            Checks.due("stretch of mile " + i, i < 2 ? 0 : i < 11 ? 1 : 2, () -> x.mile(mile, 0));
        }
        int[] gateMiles = {1, 10};
        int[][] traffics = {{7, 8, 10, 0, 9}, {1, 2, 11, 11, 3}};
        for (int i = 0; i < 2; i++) {
            int number = i;
            Checks.due("mile of gate " + i, gateMiles[i], () -> x.gate(number, 0));
            for (int what = 0; what < 5; what++) {
                int asked = what;
                Checks.due("traffic(" + i + ", " + what + ")", traffics[i][what], () -> x.traffic(number, asked));
            }
        }
        Checks.due("toll of gate 0", 5, () -> x.gate(0, 1));
        Checks.due("toll of gate 1", 6, () -> x.gate(1, 1));
        Checks.due("orders", 2, () -> x.count(6));
    }
}
