import java.util.ArrayList;
import java.util.List;
import java.util.Random;

/** Writes lists by chance, the same ones for the same seed: right ones, and ones that are spoilt a little. */
final class Lists {
    private static final String[] STRETCHES = {"a", "clay", "soft1", "x2y3z4w5v6", "b", "c"};
    private static final String[] GATES = {"g", "clay", "h", "gate0", "i", "j"};
    private static final String[] TRAFFICS = {"t", "u", "h", "coach", "v", "w", "a", "p", "q"};
    private static final String[] SPOILS = ("stretch miles soft gate at toll traffic weight wheels from to every free "
            + "farm for mend with when day coins worst condition taken gain passed farmed broken not and or min max "
            + "( ) [ ] ; , + - * / < > = <= >= a g t none 0 1 5 44 45 60 61 999 1000 999999 1000000 abcdefghijk A . \u00e9")
            .split(" ");

    private static final String[] EDGES = "0 1 9 10 16 17 30 31 44 45 60 61 999 1000 999999".split(" ");

    private final Random random;
    private final List<String> tokens = new ArrayList<>();
    private int stretches;
    private int miles;
    private int gates;
    private int traffics;

    Lists(long seed) {
        random = new Random(seed);
    }

    private int to(int n) {
        return random.nextInt(n);
    }

    private boolean oneIn(int n) {
        return to(n) == 0;
    }

    private String one(String[] names, int told) {
        return names[to(Math.min(told, names.length))];
    }

    private void put(Object... more) {
        for (Object token : more) {
            tokens.add(token.toString());
        }
    }

    String list() {
        tokens.clear();
        stretches = 0;
        miles = 0;
        gates = 0;
        traffics = 0;
        int lines = oneIn(8) ? to(45) : 4 + to(24);
        for (int i = 0; i < lines; i++) {
            int before = tokens.size();
            line(i);
            if (tokens.size() > 400 && !oneIn(10)) {
                tokens.subList(before, tokens.size()).clear();
            }
        }
        int spoilt = oneIn(3) ? 1 + to(3) : 0;
        for (int i = 0; i < spoilt && !tokens.isEmpty(); i++) {
            spoil();
        }
        return text();
    }

    private void line(int i) {
        int sort = i < 3 ? i : to(12);
        if (sort == 0 || miles == 0) {
            if (stretches < 5 || oneIn(30)) {
                stretch();
            }
        } else if (sort == 1 || sort == 3 && gates < 3) {
            if (gates < 5 || oneIn(30)) {
                gate();
            }
        } else if (sort == 2 || sort == 4 || sort == 5 && traffics < 4) {
            if (traffics < 8 || oneIn(30)) {
                traffic();
            }
        } else if (sort <= 7 && gates > 0 && traffics > 0) {
            put("free", one(TRAFFICS, traffics), "at", one(GATES, gates), "when");
            test(0);
            put(";");
        } else if (sort <= 9 && gates > 0) {
            put("farm", one(GATES, gates), "for", oneIn(20) ? 999 : to(oneIn(4) ? 60 : 15), "when");
            test(0);
            put(";");
        } else {
            mend();
        }
    }

    private void stretch() {
        int number = 1 + to(9);
        put("stretch", STRETCHES[Math.min(stretches, 5)], "miles", number, "soft", to(10), ";");
        stretches++;
        miles += number;
    }

    private void gate() {
        put("gate", GATES[Math.min(gates, 5)], "at", to(miles), "toll", to(61), ";");
        gates++;
    }

    private void traffic() {
        int weight = oneIn(4) ? 1 + to(60) : 1 + to(12);
        int every = oneIn(3) ? 1 + to(30) : 1 + to(5);
        put("traffic", TRAFFICS[Math.min(traffics, 8)], "weight", weight, "wheels", 1 + to(16),
                "from", to(miles), "to", to(miles), "every", every, ";");
        traffics++;
    }

    private void mend() {
        put("mend", one(STRETCHES, stretches), "with");
        if (oneIn(2)) {
            put(to(40));
        } else {
            sum(0);
        }
        if (oneIn(2)) {
            put("when");
            test(0);
        }
        put(";");
    }

    private void test(int depth) {
        both(depth);
        while (oneIn(5)) {
            put("or");
            both(depth);
        }
    }

    private void both(int depth) {
        single(depth);
        while (oneIn(5)) {
            put("and");
            single(depth);
        }
    }

    private void single(int depth) {
        int sort = depth >= 8 && !oneIn(20) ? 9 : to(12);
        if (sort == 0) {
            put("not");
            single(depth + 1);
        } else if (sort == 1) {
            put("[");
            test(depth + 1);
            put("]");
        } else if (sort <= 3 && gates > 0) {
            put("farmed", one(GATES, gates));
        } else if (sort == 4) {
            put("broken", one(STRETCHES, stretches));
        } else {
            sum(depth);
            put(new String[] {"<", ">", "=", "<=", ">="}[to(5)]);
            sum(depth);
        }
    }

    private void sum(int depth) {
        product(depth);
        while (oneIn(5)) {
            put(oneIn(2) ? "+" : "-");
            product(depth);
        }
    }

    private void product(int depth) {
        value(depth);
        while (oneIn(6)) {
            put(oneIn(2) ? "*" : "/");
            value(depth);
        }
    }

    private void value(int depth) {
        int sort = depth >= 8 && !oneIn(20) ? to(10) : to(16);
        if (sort <= 2) {
            put(oneIn(5) ? to(1000000) : oneIn(2) ? to(10) : to(300));
        } else if (sort == 3) {
            put("day");
        } else if (sort == 4) {
            put("coins");
        } else if (sort <= 6) {
            put("worst", one(STRETCHES, stretches));
        } else if (sort <= 8 && gates > 0) {
            put(oneIn(2) ? "taken" : "gain", one(GATES, gates));
        } else if (sort == 9 && traffics > 0) {
            put("passed", one(TRAFFICS, traffics));
        } else if (sort == 10 && depth < 8) {
            put("-");
            value(depth + 1);
        } else if (sort <= 12 && depth < 8) {
            put("condition", "(");
            sum(depth + 1);
            put(")");
        } else if (sort == 13 && depth < 8) {
            put("(");
            sum(depth + 1);
            put(")");
        } else if (sort == 14) {
            put(oneIn(2) ? "min" : "max", "(");
            sum(depth + 1);
            put(",");
            sum(depth + 1);
            put(")");
        } else {
            put(to(100));
        }
    }

    private void spoil() {
        int at = to(tokens.size());
        switch (to(9)) {
            case 0:
                tokens.remove(at);
                break;
            case 1:
                tokens.add(at, SPOILS[to(SPOILS.length)]);
                break;
            case 2:
                tokens.add(at, tokens.get(to(tokens.size())));
                break;
            case 3:
                tokens.subList(at, tokens.size()).clear();
                break;
            case 4:
                tokens.set(at, SPOILS[to(SPOILS.length)]);
                break;
            default:
                likeForLike(at);
        }
    }

    /** Puts another name for a name or another number for a number, so that the grammar is kept. */
    private void likeForLike(int from) {
        int at = from;
        while (at < tokens.size() - 1 && !isName(tokens.get(at)) && !isNumber(tokens.get(at))) {
            at++;
        }
        if (isName(tokens.get(at))) {
            String[] names = oneIn(3) ? STRETCHES : oneIn(2) ? GATES : TRAFFICS;
            tokens.set(at, names[to(names.length)]);
        } else if (isNumber(tokens.get(at))) {
            tokens.set(at, EDGES[to(EDGES.length)]);
        }
    }

    private static boolean isName(String token) {
        return List.of(STRETCHES).contains(token) || List.of(GATES).contains(token)
                || List.of(TRAFFICS).contains(token);
    }

    private static boolean isNumber(String token) {
        return Character.isDigit(token.charAt(0));
    }

    /** Leaves some blanks out: where they are needed as well, if seldom. */
    private String text() {
        StringBuilder text = new StringBuilder();
        for (String token : tokens) {
            boolean afterWord = text.length() > 0 && Character.isLetterOrDigit(text.charAt(text.length() - 1));
            boolean needed = afterWord && Character.isLetterOrDigit(token.charAt(0));
            if (needed ? !oneIn(3000) : oneIn(4)) {
                text.append(oneIn(6) ? "\n" : oneIn(10) ? "  " : " ");
            }
            text.append(token);
        }
        if (oneIn(300)) {
            text.insert(to(text.length() + 1), (char) to(256));
        }
        return text.length() > 2000 ? text.substring(0, 2000) : text.toString();
    }
}
