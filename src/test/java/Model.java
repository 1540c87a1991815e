import java.util.ArrayDeque;
import java.util.ArrayList;
import java.util.Deque;
import java.util.List;
import java.util.Set;
import java.util.regex.Matcher;
import java.util.regex.Pattern;

/**
 * A second reading of the document, as plain as it can be: the grammar is followed with a stack of what is
 * expected, and tests and sums are reckoned from their tokens each time. ModelTest holds it against the program.
 */
final class Model {
    private static final Set<String> KEYWORDS = Set.of(("stretch miles soft gate at toll traffic weight wheels from to "
            + "every free farm for mend with when day coins worst condition taken gain passed farmed broken not and or "
            + "min max").split(" "));
    private static final Set<String> COMPARING = Set.of("<", ">", "=", "<=", ">=");
    private static final Set<String> ORDERS = Set.of("free", "farm", "mend");
    private static final Pattern TOKEN = Pattern.compile("[a-z][a-z0-9]*|[0-9]+|<=|>=|[()\\[\\];,+\\-*/<>=]");

    /** A token; its kind is the text of a keyword or symbol, or NAME, NUMBER, END or BAD. */
    record Token(String kind, String text, int at) {
        int number() {
            return Integer.parseInt(text);
        }
    }

    private static final class Stretch {
        String name;
        int soft;
        int first;
        int miles;
        int spent;
    }

    private static final class Mile {
        int stretch;
        int condition = 100;
        int worn;
    }

    private static final class Gate {
        String name;
        int mile;
        int toll;
        int taken;
        int gain;
        int rent = -1;
        int today;
    }

    private static final class Traffic {
        String name;
        int weight;
        int wheels;
        int from;
        int to;
        int every;
        int passed;
        int turned;
        int paid;
    }

    private String tape = "";
    private int errorAt = -1;
    private int day;
    private int coins = 200;
    private List<Stretch> stretches = new ArrayList<>();
    private List<Mile> miles = new ArrayList<>();
    private List<Gate> gates = new ArrayList<>();
    private List<Traffic> traffics = new ArrayList<>();
    private List<List<Token>> orders = new ArrayList<>();
    private int forcedGate = -1;
    private int forcedRent;

    private Model copy() {
        Model c = new Model();
        c.tape = tape;
        c.day = day;
        c.coins = coins;
        c.orders = orders;
        for (Stretch s : stretches) {
            Stretch t = new Stretch();
            t.name = s.name;
            t.soft = s.soft;
            t.first = s.first;
            t.miles = s.miles;
            t.spent = s.spent;
            c.stretches.add(t);
        }
        for (Mile m : miles) {
            Mile n = new Mile();
            n.stretch = m.stretch;
            n.condition = m.condition;
            n.worn = m.worn;
            c.miles.add(n);
        }
        for (Gate g : gates) {
            Gate h = new Gate();
            h.name = g.name;
            h.mile = g.mile;
            h.toll = g.toll;
            h.taken = g.taken;
            h.gain = g.gain;
            h.rent = g.rent;
            c.gates.add(h);
        }
        for (Traffic t : traffics) {
            Traffic u = new Traffic();
            u.name = t.name;
            u.weight = t.weight;
            u.wheels = t.wheels;
            u.from = t.from;
            u.to = t.to;
            u.every = t.every;
            u.passed = t.passed;
            u.turned = t.turned;
            u.paid = t.paid;
            c.traffics.add(u);
        }
        return c;
    }

    // ---- the language

    int feed(int... numbers) {
        StringBuilder longer = new StringBuilder(tape);
        for (int n : numbers) {
            longer.append((char) (n >>> 24)).append((char) (n >>> 16 & 255)).append((char) (n >>> 8 & 255))
                    .append((char) (n & 255));
        }
        if (longer.length() > 2000) {
            throw new IllegalStateException();
        }
        tape = longer.toString();
        return tape.length();
    }

    int trim(int n) {
        if (n < 0 || n > tape.length()) {
            throw new IllegalArgumentException();
        }
        tape = tape.substring(0, n);
        return n;
    }

    private static List<Token> cut(String tape) {
        List<Token> tokens = new ArrayList<>();
        Matcher matcher = TOKEN.matcher(tape);
        int at = 0;
        while (true) {
            while (at < tape.length() && (tape.charAt(at) == ' ' || tape.charAt(at) == '\n')) {
                at++;
            }
            if (at == tape.length()) {
                tokens.add(new Token("END", "", at));
                return tokens;
            }
            if (!matcher.region(at, tape.length()).lookingAt()) {
                tokens.add(new Token("BAD", "", at));
                return tokens;
            }
            String text = matcher.group();
            String kind = text;
            if (Character.isDigit(text.charAt(0))) {
                kind = text.length() > 6 ? "BAD" : "NUMBER";
            } else if (Character.isLowerCase(text.charAt(0)) && !KEYWORDS.contains(text)) {
                kind = text.length() > 10 ? "BAD" : "NAME";
            }
            tokens.add(new Token(kind, text, at));
            at = matcher.end();
        }
    }

    /** What a thing that is expected, with its depth behind a :, is made of, if a token of this kind comes next. */
    private static String parts(String expected, String kind) {
        int colon = expected.indexOf(':');
        String thing = colon < 0 ? expected : expected.substring(0, colon);
        int depth = colon < 0 ? 0 : Integer.parseInt(expected.substring(colon + 1));
        String same = ":" + depth;
        String deeper = depth == 8 ? " NOTHING" : ":" + (depth + 1);
        boolean deep = depth == 8;
        switch (thing) {
            case "LIST": return kind.equals("END") ? "END" : "LINE ; LIST";
            case "LINE": return line(kind);
            case "WHEN": return kind.equals("when") ? "when TEST:0" : "";
            case "TEST": return "BOTH" + same + " ORS" + same;
            case "ORS": return kind.equals("or") ? "or BOTH" + same + " ORS" + same : "";
            case "BOTH": return "SINGLE" + same + " ANDS" + same;
            case "ANDS": return kind.equals("and") ? "and SINGLE" + same + " ANDS" + same : "";
            case "SINGLE":
                if (kind.equals("not")) {
                    return deep ? "NOTHING" : "not SINGLE" + deeper;
                }
                if (kind.equals("[")) {
                    return deep ? "NOTHING" : "[ TEST" + deeper + " ]";
                }
                return kind.equals("farmed") || kind.equals("broken") ? kind + " NAME"
                        : "SUM" + same + " COMPARING SUM" + same;
            case "COMPARING": return COMPARING.contains(kind) ? kind : "NOTHING";
            case "SUM": return "PRODUCT" + same + " PLUSES" + same;
            case "PLUSES": return kind.equals("+") || kind.equals("-") ? kind + " PRODUCT" + same + " PLUSES" + same : "";
            case "PRODUCT": return "VALUE" + same + " TIMES" + same;
            case "TIMES": return kind.equals("*") || kind.equals("/") ? kind + " VALUE" + same + " TIMES" + same : "";
            case "VALUE":
                switch (kind) {
                    case "NUMBER": case "day": case "coins": return kind;
                    case "worst": case "taken": case "gain": case "passed": return kind + " NAME";
                    case "condition": return deep ? "condition NOTHING" : "condition ( SUM" + deeper + " )";
                    case "(": return deep ? "NOTHING" : "( SUM" + deeper + " )";
                    case "-": return deep ? "NOTHING" : "- VALUE" + deeper;
                    case "min": case "max":
                        return deep ? kind + " NOTHING" : kind + " ( SUM" + deeper + " , SUM" + deeper + " )";
                    default: return "NOTHING";
                }
            default: return null;
        }
    }

    private static String line(String kind) {
        switch (kind) {
            case "stretch": return "stretch NAME miles NUMBER soft NUMBER";
            case "gate": return "gate NAME at NUMBER toll NUMBER";
            case "traffic": return "traffic NAME weight NUMBER wheels NUMBER from NUMBER to NUMBER every NUMBER";
            case "free": return "free NAME at NAME when TEST:0";
            case "farm": return "farm NAME for NUMBER when TEST:0";
            case "mend": return "mend NAME with SUM:0 WHEN";
            default: return "NOTHING";
        }
    }

    /** The position of error 1, -1 for none. */
    private static int wrongToken(List<Token> tokens) {
        Deque<String> expected = new ArrayDeque<>();
        expected.push("LIST");
        for (int i = 0; i < tokens.size(); i++) {
            Token token = tokens.get(i);
            if (i == 400 && !token.kind.equals("END")) {
                return token.at;
            }
            while (true) {
                String top = expected.pop();
                if (top.equals(token.kind)) {
                    break;
                }
                String parts = parts(top, token.kind);
                if (parts == null) {
                    return token.at;
                }
                String[] row = parts.isEmpty() ? new String[0] : parts.split(" ");
                for (int k = row.length - 1; k >= 0; k--) {
                    expected.push(row[k]);
                }
            }
        }
        return -1;
    }

    int teach() {
        List<Token> tokens = cut(tape);
        tape = "";
        errorAt = wrongToken(tokens);
        if (errorAt >= 0) {
            return 1;
        }
        Model told = new Model();
        List<Token> line = new ArrayList<>();
        for (Token token : tokens) {
            line.add(token);
            if (token.kind.equals(";")) {
                int error = told.tell(line);
                if (error != 0) {
                    errorAt = told.errorAt;
                    return error;
                }
                line = new ArrayList<>();
            }
        }
        coins = 200;
        stretches = told.stretches;
        miles = told.miles;
        gates = told.gates;
        traffics = told.traffics;
        orders = told.orders;
        return 0;
    }

    int errorAt() {
        return errorAt;
    }

    private int stretchOf(String name) {
        for (int i = 0; i < stretches.size(); i++) {
            if (stretches.get(i).name.equals(name)) {
                return i;
            }
        }
        return -1;
    }

    private int gateOf(String name) {
        for (int i = 0; i < gates.size(); i++) {
            if (gates.get(i).name.equals(name)) {
                return i;
            }
        }
        return -1;
    }

    private int trafficOf(String name) {
        for (int i = 0; i < traffics.size(); i++) {
            if (traffics.get(i).name.equals(name)) {
                return i;
            }
        }
        return -1;
    }

    private int error(Token token, int error) {
        errorAt = token.at;
        return error;
    }

    private int newName(Token token, int found, int told, int most) {
        if (found >= 0) {
            return error(token, 2);
        }
        return told == most ? error(token, 4) : 0;
    }

    /** Looks at the numbers of a line at 3, 5, 7 .., each with the least and the greatest that it may be. */
    private int numbers(List<Token> line, int... ranges) {
        for (int i = 0; i < ranges.length / 2; i++) {
            Token token = line.get(3 + 2 * i);
            if (token.number() < ranges[2 * i] || token.number() > ranges[2 * i + 1]) {
                return error(token, 5);
            }
        }
        return 0;
    }

    private int tell(List<Token> line) {
        String sort = line.get(0).kind;
        Token name = line.get(1);
        int last = miles.size() - 1;
        int error;
        switch (sort) {
            case "stretch":
                error = newName(name, stretchOf(name.text), stretches.size(), 5);
                error = error != 0 ? error : numbers(line, 1, 9, 0, 9);
                if (error == 0) {
                    Stretch s = new Stretch();
                    s.name = name.text;
                    s.first = miles.size();
                    s.miles = line.get(3).number();
                    s.soft = line.get(5).number();
                    for (int i = 0; i < s.miles; i++) {
                        Mile mile = new Mile();
                        mile.stretch = stretches.size();
                        miles.add(mile);
                    }
                    stretches.add(s);
                }
                return error;
            case "gate":
                error = newName(name, gateOf(name.text), gates.size(), 5);
                error = error != 0 ? error : numbers(line, 0, last, 0, 60);
                if (error == 0) {
                    Gate g = new Gate();
                    g.name = name.text;
                    g.mile = line.get(3).number();
                    g.toll = line.get(5).number();
                    gates.add(g);
                }
                return error;
            case "traffic":
                error = newName(name, trafficOf(name.text), traffics.size(), 8);
                error = error != 0 ? error : numbers(line, 1, 60, 1, 16, 0, last, 0, last, 1, 30);
                if (error == 0) {
                    Traffic t = new Traffic();
                    t.name = name.text;
                    t.weight = line.get(3).number();
                    t.wheels = line.get(5).number();
                    t.from = line.get(7).number();
                    t.to = line.get(9).number();
                    t.every = line.get(11).number();
                    traffics.add(t);
                }
                return error;
            default:
                error = orders.size() == 20 ? error(line.get(0), 4) : tellOrder(sort, line);
                orders.add(line);
                return error;
        }
    }

    private int tellOrder(String sort, List<Token> line) {
        for (int i = 1; i < line.size(); i++) {
            Token token = line.get(i);
            String before = line.get(i - 1).kind;
            if (token.kind.equals("NAME")) {
                int found;
                switch (before) {
                    case "mend": case "worst": case "broken":
                        found = stretchOf(token.text);
                        break;
                    case "at": case "farm": case "taken": case "gain": case "farmed":
                        found = gateOf(token.text);
                        break;
                    case "free": case "passed":
                        found = trafficOf(token.text);
                        break;
                    default:
                        throw new AssertionError(before);
                }
                if (found < 0) {
                    return error(token, 3);
                }
            } else if (sort.equals("farm") && i == 3 && token.number() > 999) {
                return error(token, 5);
            }
        }
        return 0;
    }

    // ---- tests and sums, reckoned from their tokens

    private final class Reading {
        private final List<Token> tokens;
        private int at;

        Reading(List<Token> tokens, int at) {
            this.tokens = tokens;
            this.at = at;
        }

        private boolean next(String kind) {
            boolean is = tokens.get(at).kind.equals(kind);
            at += is ? 1 : 0;
            return is;
        }

        private String name() {
            at++;
            return tokens.get(at - 1).text;
        }

        boolean test() {
            boolean holds = both();
            while (next("or")) {
                boolean other = both();
                holds = holds || other;
            }
            return holds;
        }

        private boolean both() {
            boolean holds = single();
            while (next("and")) {
                boolean other = single();
                holds = holds && other;
            }
            return holds;
        }

        private boolean single() {
            if (next("not")) {
                return !single();
            }
            if (next("[")) {
                boolean holds = test();
                next("]");
                return holds;
            }
            if (next("farmed")) {
                return gates.get(gateOf(name())).rent >= 0;
            }
            if (next("broken")) {
                return leastOf(stretchOf(name())) == 0;
            }
            int left = sum();
            String comparing = name();
            int right = sum();
            int order = Integer.compare(left, right);
            switch (comparing) {
                case "<": return order < 0;
                case ">": return order > 0;
                case "=": return order == 0;
                case "<=": return order <= 0;
                default: return order >= 0;
            }
        }

        int sum() {
            int sum = product();
            while (true) {
                if (next("+")) {
                    sum += product();
                } else if (next("-")) {
                    sum -= product();
                } else {
                    return sum;
                }
            }
        }

        private int product() {
            int product = value();
            while (true) {
                if (next("*")) {
                    product *= value();
                } else if (next("/")) {
                    int by = value();
                    product = by == 0 ? 0 : (int) ((long) product / by);
                } else {
                    return product;
                }
            }
        }

        private int value() {
            Token token = tokens.get(at);
            at++;
            switch (token.kind) {
                case "NUMBER": return token.number();
                case "day": return day;
                case "coins": return coins;
                case "worst": return leastOf(stretchOf(name()));
                case "taken": return gates.get(gateOf(name())).taken;
                case "gain": return gates.get(gateOf(name())).gain;
                case "passed": return traffics.get(trafficOf(name())).passed;
                case "-": return -value();
                case "condition":
                    at++;
                    int mile = closed();
                    return mile >= 0 && mile < miles.size() ? miles.get(mile).condition : 0;
                case "(": return closed();
                default:
                    at++;
                    int left = sum();
                    next(",");
                    int right = closed();
                    return token.kind.equals("min") ? Math.min(left, right) : Math.max(left, right);
            }
        }

        private int closed() {
            int sum = sum();
            next(")");
            return sum;
        }
    }

    // ---- days

    private int leastOf(int stretch) {
        int least = 100;
        for (Mile mile : miles) {
            if (mile.stretch == stretch) {
                least = Math.min(least, mile.condition);
            }
        }
        return least;
    }

    private int tollOf(int traffic, int gate) {
        int wheels = traffics.get(traffic).wheels;
        int toll = gates.get(gate).toll;
        return wheels <= 5 ? 2 * toll : wheels >= 12 ? toll / 2 : toll;
    }

    private boolean isFree(Traffic t, Gate g) {
        for (List<Token> order : orders) {
            if (order.get(0).kind.equals("free") && order.get(1).text.equals(t.name) && order.get(3).text.equals(g.name)
                    && new Reading(order, 5).test()) {
                return true;
            }
        }
        return false;
    }

    /** Tells the mile at which it turns back, or -1. */
    private int go(int traffic) {
        Traffic t = traffics.get(traffic);
        int mile = t.from;
        while (true) {
            Mile m = miles.get(mile);
            if (m.condition == 0) {
                t.turned++;
                return mile;
            }
            for (int g = 0; g < gates.size(); g++) {
                Gate gate = gates.get(g);
                if (gate.mile == mile && !isFree(t, gate)) {
                    int toll = tollOf(traffic, g);
                    t.paid += toll;
                    gate.taken += toll;
                    gate.today += gate.rent >= 0 ? toll : 0;
                    coins += gate.rent >= 0 ? 0 : toll;
                }
            }
            int wear = t.weight * stretches.get(m.stretch).soft / t.wheels;
            int left = Math.max(0, m.condition - wear);
            m.worn += m.condition - left;
            m.condition = left;
            if (mile == t.to) {
                t.passed++;
                return -1;
            }
            mile += Integer.signum(t.to - t.from);
        }
    }

    private int spend(int stretch, int most) {
        Stretch s = stretches.get(stretch);
        int used = 0;
        while (used < most && leastOf(stretch) < 100) {
            for (int i = s.first; ; i++) {
                Mile mile = miles.get(i);
                if (mile.condition == leastOf(stretch)) {
                    mile.condition = Math.min(100, mile.condition + 4);
                    break;
                }
            }
            used++;
        }
        coins -= used;
        s.spent += used;
        return used;
    }

    private void day() {
        for (int g = 0; g < gates.size(); g++) {
            int rent = -1;
            for (List<Token> order : orders) {
                if (rent < 0 && order.get(0).kind.equals("farm") && order.get(1).text.equals(gates.get(g).name)
                        && new Reading(order, 5).test()) {
                    rent = order.get(3).number();
                }
            }
            gates.get(g).rent = g == forcedGate ? forcedRent : rent;
            gates.get(g).today = 0;
        }
        for (int t = 0; t < traffics.size(); t++) {
            if (day % traffics.get(t).every == 0) {
                go(t);
            }
        }
        for (Gate gate : gates) {
            if (gate.rent >= 0) {
                coins += gate.rent;
                gate.gain += gate.today - gate.rent;
            }
        }
        for (List<Token> order : orders) {
            if (order.get(0).kind.equals("mend")) {
                Reading sum = new Reading(order, 3);
                int wanted = sum.sum();
                if (sum.next(";") || sum.next("when") && sum.test()) {
                    spend(stretchOf(order.get(1).text), Math.max(0, Math.min(wanted, coins)));
                }
            }
        }
        day++;
        coins = Math.min(coins, 99999);
    }

    private Model behind(int days) {
        for (int i = 0; i < days; i++) {
            day();
        }
        return this;
    }

    // ---- the calls

    private static void inside(boolean is) {
        if (!is) {
            throw new IndexOutOfBoundsException();
        }
    }

    private static void inside(int index, int size, int what, int whats) {
        inside(index >= 0 && index < size && what >= 0 && what < whats);
    }

    private static void legal(boolean is) {
        if (!is) {
            throw new IllegalArgumentException();
        }
    }

    int count(int what) {
        inside(what, 13, 0, 1);
        int[] all = {day, coins, stretches.size(), miles.size(), gates.size(), traffics.size(), orders.size(),
            miles.stream().mapToInt(m -> m.condition).sum(), (int) miles.stream().filter(m -> m.condition == 0).count(),
            gates.stream().mapToInt(g -> g.taken).sum(), gates.stream().mapToInt(g -> g.gain).sum(),
            stretches.stream().mapToInt(s -> s.spent).sum(), tape.length()};
        return all[what];
    }

    int mile(int mile, int what) {
        inside(mile, miles.size(), what, 4);
        Mile m = miles.get(mile);
        int standing = (int) gates.stream().filter(g -> g.mile == mile).count();
        return new int[] {m.stretch, m.condition, standing, m.worn}[what];
    }

    int stretch(int stretch, int what) {
        inside(stretch, stretches.size(), what, 6);
        Stretch s = stretches.get(stretch);
        int broken = (int) miles.stream().filter(m -> m.stretch == stretch && m.condition == 0).count();
        return new int[] {s.miles, s.soft, s.first, leastOf(stretch), broken, s.spent}[what];
    }

    int gate(int gate, int what) {
        inside(gate, gates.size(), what, 6);
        Gate g = gates.get(gate);
        int by = (int) traffics.stream()
                .filter(t -> Math.min(t.from, t.to) <= g.mile && g.mile <= Math.max(t.from, t.to)).count();
        return new int[] {g.mile, g.toll, g.taken, g.gain, g.rent, by}[what];
    }

    int traffic(int traffic, int what) {
        inside(traffic, traffics.size(), what, 8);
        Traffic t = traffics.get(traffic);
        return new int[] {t.weight, t.wheels, t.from, t.to, t.every, t.passed, t.turned, t.paid}[what];
    }

    int toll(int traffic, int gate) {
        inside(traffic, traffics.size(), gate, gates.size());
        return tollOf(traffic, gate);
    }

    int journey(int traffic, int what) {
        inside(traffic, traffics.size(), what, 3);
        Model would = copy();
        int turning = would.go(traffic);
        int paid = would.traffics.get(traffic).paid - traffics.get(traffic).paid;
        int worn = would.miles.stream().mapToInt(m -> m.worn).sum() - miles.stream().mapToInt(m -> m.worn).sum();
        return new int[] {paid, worn, turning}[what];
    }

    int worst() {
        int least = miles.stream().mapToInt(m -> m.condition).min().orElse(0);
        for (int i = 0; i < miles.size(); i++) {
            if (miles.get(i).condition == least) {
                return i;
            }
        }
        return -1;
    }

    int setToll(int gate, int toll) {
        inside(gate, gates.size(), 0, 1);
        legal(toll >= 0 && toll <= 60);
        int before = gates.get(gate).toll;
        gates.get(gate).toll = toll;
        return before;
    }

    int setWheels(int traffic, int wheels) {
        inside(traffic, traffics.size(), 0, 1);
        legal(wheels >= 1 && wheels <= 16);
        int before = traffics.get(traffic).wheels;
        traffics.get(traffic).wheels = wheels;
        return before;
    }

    int mend(int stretch, int number) {
        inside(stretch, stretches.size(), 0, 1);
        legal(number >= 1 && number <= 999);
        if (coins < number) {
            throw new IllegalStateException();
        }
        return spend(stretch, number);
    }

    int grant(int number) {
        legal(number >= 1 && number <= 9999);
        coins = Math.min(99999, coins + number);
        return coins;
    }

    int pass(int days) {
        legal(days >= 1 && days <= 120);
        int before = traffics.stream().mapToInt(t -> t.passed).sum();
        behind(days);
        return traffics.stream().mapToInt(t -> t.passed).sum() - before;
    }

    int until(int mile) {
        inside(mile, miles.size(), 0, 1);
        Model would = copy();
        for (int days = 0; days <= 200; days++) {
            if (would.miles.get(mile).condition == 0) {
                return days;
            }
            would.day();
        }
        return -1;
    }

    int foresee(int days, int what) {
        legal(days >= 1 && days <= 120);
        inside(what == 1 || what >= 7 && what <= 11);
        return copy().behind(days).count(what);
    }

    int advise(int rent, int days) {
        legal(rent >= 0 && rent <= 999 && days >= 1 && days <= 90);
        int without = copy().behind(days).coins;
        int best = -1;
        int most = without;
        for (int g = 0; g < gates.size(); g++) {
            Model would = copy();
            would.forcedGate = g;
            would.forcedRent = rent;
            int has = would.behind(days).coins;
            if (has > most) {
                best = g;
                most = has;
            }
        }
        return best;
    }

    int widen(int days) {
        legal(days >= 1 && days <= 90);
        int best = -1;
        int most = -1;
        for (int t = 0; t < traffics.size(); t++) {
            Model would = copy();
            would.traffics.get(t).wheels = 16;
            int has = would.behind(days).count(7);
            if (has > most) {
                best = t;
                most = has;
            }
        }
        return best;
    }

    double mean() {
        return miles.isEmpty() ? 0 : count(7) / (double) miles.size();
    }

    private interface Row {
        int get(int index, int what);
    }

    private static long digest(long start, int size, int whats, Row row) {
        long d = start;
        for (int i = 0; i < size; i++) {
            for (int what = 0; what < whats; what++) {
                d = d * 31 + row.get(i, what);
            }
        }
        return d;
    }

    long digest() {
        long d = digest(883, 1, 13, (i, what) -> count(what));
        d = digest(d, miles.size(), 4, this::mile);
        d = digest(d, stretches.size(), 6, this::stretch);
        d = digest(d, gates.size(), 6, this::gate);
        return digest(d, traffics.size(), 8, this::traffic);
    }
}
