/** The trustees of a turnpike: a road that is told as a list, its days by day, and what would be. */
public final class TollTrustees {
    private static final int MOST_BYTES = 2000;
    private static final int BYTES_OF_A_FEED = 20;
    private static final int MOST_TOKENS = 400;
    private static final int MOST_DEPTH = 8;
    private static final int LONGEST_WORD = 10;
    private static final int LONGEST_NUMBER = 6;

    private static final int MOST_STRETCHES = 5;
    private static final int MOST_MILES = 45;
    private static final int MOST_GATES = 5;
    private static final int MOST_TRAFFICS = 8;
    private static final int MOST_ORDERS = 20;

    private static final int FULL_CONDITION = 100;
    private static final int CONDITION_OF_A_COIN = 4;
    private static final int FIRST_COINS = 200;
    private static final int MOST_COINS = 99999;
    private static final int MOST_TOLL = 60;
    private static final int MOST_WHEELS = 16;
    private static final int NARROWEST_USUAL = 6;
    private static final int WIDEST_USUAL = 11;
    private static final int NOT_FARMED = -1;
    private static final int NONE = -1;

    private static final int WHATS_OF_COUNT = 13;
    private static final int WHATS_OF_A_MILE = 4;
    private static final int WHATS_OF_A_STRETCH = 6;
    private static final int WHATS_OF_A_GATE = 6;
    private static final int WHATS_OF_A_TRAFFIC = 8;
    private static final int WHATS_OF_A_JOURNEY = 3;

    private static final int MOST_DAYS_TO_PASS = 120;
    private static final int MOST_DAYS_TO_ADVISE = 90;
    private static final int MOST_DAYS_UNTIL = 200;

    private static final int WRONG_TOKEN = 1;
    private static final int TOLD_TWICE = 2;
    private static final int NOT_TOLD = 3;
    private static final int TOO_MANY = 4;
    private static final int OUT_OF_RANGE = 5;

    // The kinds of tokens. Keywords bear their place in KEYWORDS, symbols theirs in SYMBOLS behind them.
    private static final String KEYWORDS =
            "stretch miles soft gate at toll traffic weight wheels from to every free farm for mend with when day coins worst condition taken gain passed farmed broken not and or min max";
    private static final int STRETCH = 0;
    private static final int MILES = 1;
    private static final int SOFT = 2;
    private static final int GATE = 3;
    private static final int AT = 4;
    private static final int TOLL = 5;
    private static final int TRAFFIC = 6;
    private static final int WEIGHT = 7;
    private static final int WHEELS = 8;
    private static final int FROM = 9;
    private static final int TO = 10;
    private static final int EVERY = 11;
    private static final int FREE = 12;
    private static final int FARM = 13;
    private static final int FOR = 14;
    private static final int MEND = 15;
    private static final int WITH = 16;
    private static final int WHEN = 17;
    private static final int DAY = 18;
    private static final int COINS = 19;
    private static final int WORST = 20;
    private static final int CONDITION = 21;
    private static final int TAKEN = 22;
    private static final int GAIN = 23;
    private static final int PASSED = 24;
    private static final int FARMED = 25;
    private static final int BROKEN = 26;
    private static final int NOT = 27;
    private static final int AND = 28;
    private static final int OR = 29;
    private static final int MIN = 30;
    private static final int MAX = 31;

    private static final String SYMBOLS = "()[];,+-*/<>=";
    private static final int FIRST_SYMBOL = 32;
    private static final int OPEN = 32;
    private static final int CLOSE = 33;
    private static final int OPEN_TEST = 34;
    private static final int CLOSE_TEST = 35;
    private static final int END_OF_LINE = 36;
    private static final int COMMA = 37;
    private static final int PLUS = 38;
    private static final int MINUS = 39;
    private static final int TIMES = 40;
    private static final int DIVIDED = 41;
    private static final int LESS = 42;
    private static final int MORE = 43;
    private static final int EQUAL = 44;
    private static final int AT_MOST = 45;
    private static final int AT_LEAST = 46;

    private static final int NAME = 47;
    private static final int NUMBER = 48;
    private static final int END_OF_TAPE = 49;
    private static final int NO_TOKEN = 50;

    /** No token: the operation of a - in front of a value, which is told from the - between two products. */
    private static final int TURN = 51;

    private static final int[] STRETCH_LINE = {STRETCH, NAME, MILES, NUMBER, SOFT, NUMBER};
    private static final int[] GATE_LINE = {GATE, NAME, AT, NUMBER, TOLL, NUMBER};
    private static final int[] TRAFFIC_LINE = {
        TRAFFIC, NAME, WEIGHT, NUMBER, WHEELS, NUMBER, FROM, NUMBER, TO, NUMBER, EVERY, NUMBER};
    private static final int[] FREE_LINE = {FREE, NAME, AT, NAME, WHEN};
    private static final int[] FARM_LINE = {FARM, NAME, FOR, NUMBER, WHEN};
    private static final int[] MEND_LINE = {MEND, NAME, WITH};

    /** By threes: the keyword in front of a number, the least and the greatest that it may be. */
    private static final int[] RANGES = {
        MILES, 1, 9, SOFT, 0, 9, AT, 0, 44, TOLL, 0, 60, WEIGHT, 1, 60, WHEELS, 1, 16,
        FROM, 0, 44, TO, 0, 44, EVERY, 1, 30, FOR, 0, 999};

    private final byte[] tape;
    private int bytes;
    private int errorPlace;
    private final Tokens tokens;
    private final Grammar grammar;
    private final Survey survey;
    private final Trust now;
    private final Trust trial;
    private Road road;
    private Road draft;

    public TollTrustees() {
        tape = new byte[MOST_BYTES];
        bytes = 0;
        errorPlace = NONE;
        tokens = new Tokens();
        grammar = new Grammar(tokens);
        survey = new Survey(tokens, tape);
        road = new Road();
        draft = new Road();
        Reckoner reckoner = new Reckoner();
        now = new Trust(road, reckoner);
        trial = new Trust(road, reckoner);
    }

    // ---- the language

    public int feed(int a, int b, int c, int d, int e) throws IllegalStateException {
        if (bytes + BYTES_OF_A_FEED > MOST_BYTES) {
            throw new IllegalStateException("the tape is full");
        }
        append(a);
        append(b);
        append(c);
        append(d);
        append(e);
        return bytes;
    }

    private void append(int four) {
        for (int shift = 24; shift >= 0 && bytes < MOST_BYTES; shift -= 8) {
            tape[bytes] = (byte) (four >> shift);
            bytes++;
        }
    }

    public int trim(int n) throws IllegalArgumentException {
        if (n < 0 || n > bytes) {
            throw new IllegalArgumentException("the tape has no so many bytes");
        }
        bytes = n;
        return n;
    }

    public int teach() {
        draft.clear();
        tokens.cut(tape, bytes);
        bytes = 0;
        int error = grammar.read(draft.orders);
        int token = grammar.at;
        if (error == 0) {
            error = survey.look(draft);
            token = survey.at;
        }
        errorPlace = error == 0 ? NONE : tokens.placeOf(token);
        if (error == 0) {
            draft.orders.link(tokens);
            useDraft();
        }
        return error;
    }

    private void useDraft() {
        Road old = road;
        road = draft;
        draft = old;
        now.begin(road);
    }

    public int errorAt() {
        return errorPlace;
    }

    public int count(int what) throws IndexOutOfBoundsException {
        switch (what) {
            case 0: return now.day;
            case 1: return now.coins;
            case 2: return road.stretches;
            case 3: return road.miles;
            case 4: return road.gates;
            case 5: return road.traffics;
            case 6: return road.orders.count;
            case 7: case 8: case 9: case 10: case 11: return now.total(what);
            case 12: return bytes;
            default: throw new IndexOutOfBoundsException("no such what");
        }
    }

    // ---- what there is

    public int mile(int mile, int what) throws IndexOutOfBoundsException {
        if (isOutside(mile, road.miles) || isOutside(what, WHATS_OF_A_MILE)) {
            throw new IndexOutOfBoundsException("no such mile or what");
        }
        switch (what) {
            case 0: return road.mileStretch[mile];
            case 1: return now.condition[mile];
            case 2: return road.gatesAt(mile);
            default: return now.worn[mile];
        }
    }

    public int stretch(int stretch, int what) throws IndexOutOfBoundsException {
        if (isOutside(stretch, road.stretches) || isOutside(what, WHATS_OF_A_STRETCH)) {
            throw new IndexOutOfBoundsException("no such stretch or what");
        }
        switch (what) {
            case 0: return road.stretchMiles[stretch];
            case 1: return road.soft[stretch];
            case 2: return road.firstMile[stretch];
            case 3: return now.leastCondition(stretch);
            case 4: return now.brokenMilesOf(stretch);
            default: return now.spent[stretch];
        }
    }

    public int gate(int gate, int what) throws IndexOutOfBoundsException {
        if (isOutside(gate, road.gates) || isOutside(what, WHATS_OF_A_GATE)) {
            throw new IndexOutOfBoundsException("no such gate or what");
        }
        switch (what) {
            case 0: return road.gateMile[gate];
            case 1: return now.toll[gate];
            case 2: return now.taken[gate];
            case 3: return now.gain[gate];
            case 4: return now.rent[gate];
            default: return road.trafficsBy(road.gateMile[gate]);
        }
    }

    public int traffic(int traffic, int what) throws IndexOutOfBoundsException {
        if (isOutside(traffic, road.traffics) || isOutside(what, WHATS_OF_A_TRAFFIC)) {
            throw new IndexOutOfBoundsException("no such traffic or what");
        }
        switch (what) {
            case 0: return road.weight[traffic];
            case 1: return now.wheels[traffic];
            case 2: return road.from[traffic];
            case 3: return road.to[traffic];
            case 4: return road.every[traffic];
            case 5: return now.passed[traffic];
            case 6: return now.turned[traffic];
            default: return now.paid[traffic];
        }
    }

    public int toll(int traffic, int gate) throws IndexOutOfBoundsException {
        if (isOutside(traffic, road.traffics) || isOutside(gate, road.gates)) {
            throw new IndexOutOfBoundsException("no such traffic or gate");
        }
        return now.tollOf(traffic, gate);
    }

    public int journey(int traffic, int what) throws IndexOutOfBoundsException {
        if (isOutside(traffic, road.traffics) || isOutside(what, WHATS_OF_A_JOURNEY)) {
            throw new IndexOutOfBoundsException("no such traffic or what");
        }
        trial.copyFrom(now);
        int turningMile = trial.travel(traffic);
        switch (what) {
            case 0: return trial.paid[traffic] - now.paid[traffic];
            case 1: return now.total(7) - trial.total(7);
            default: return turningMile;
        }
    }

    public int worst() {
        int worst = NONE;
        for (int mile = 0; mile < road.miles; mile++) {
            if (worst == NONE || now.condition[mile] < now.condition[worst]) {
                worst = mile;
            }
        }
        return worst;
    }

    // ---- by hand

    public int setToll(int gate, int toll) throws IndexOutOfBoundsException, IllegalArgumentException {
        if (isOutside(gate, road.gates)) {
            throw new IndexOutOfBoundsException("no such gate");
        }
        if (toll < 0 || toll > MOST_TOLL) {
            throw new IllegalArgumentException("no such toll");
        }
        int before = now.toll[gate];
        now.toll[gate] = toll;
        return before;
    }

    public int setWheels(int traffic, int wheels) throws IndexOutOfBoundsException, IllegalArgumentException {
        if (isOutside(traffic, road.traffics)) {
            throw new IndexOutOfBoundsException("no such traffic");
        }
        if (wheels < 1 || wheels > MOST_WHEELS) {
            throw new IllegalArgumentException("no such wheels");
        }
        int before = now.wheels[traffic];
        now.wheels[traffic] = wheels;
        return before;
    }

    public int mend(int stretch, int coins)
            throws IndexOutOfBoundsException, IllegalArgumentException, IllegalStateException {
        if (isOutside(stretch, road.stretches)) {
            throw new IndexOutOfBoundsException("no such stretch");
        }
        if (coins < 1 || coins > 999) {
            throw new IllegalArgumentException("no such number of coins");
        }
        if (coins > now.coins) {
            throw new IllegalStateException("the trust has fewer coins");
        }
        return now.spend(stretch, coins);
    }

    public int grant(int coins) throws IllegalArgumentException {
        if (coins < 1 || coins > 9999) {
            throw new IllegalArgumentException("no such number of coins");
        }
        now.coins += coins;
        now.keepCoinsInBounds();
        return now.coins;
    }

    // ---- days

    public int pass(int days) throws IllegalArgumentException {
        if (days < 1 || days > MOST_DAYS_TO_PASS) {
            throw new IllegalArgumentException("no such number of days");
        }
        return now.letGo(days);
    }

    // ---- what would be

    public int until(int mile) throws IndexOutOfBoundsException {
        if (isOutside(mile, road.miles)) {
            throw new IndexOutOfBoundsException("no such mile");
        }
        trial.copyFrom(now);
        for (int days = 0; days < MOST_DAYS_UNTIL; days++) {
            if (trial.condition[mile] == 0) {
                return days;
            }
            trial.letGo(1);
        }
        return trial.condition[mile] == 0 ? MOST_DAYS_UNTIL : NONE;
    }

    public int foresee(int days, int what) throws IllegalArgumentException, IndexOutOfBoundsException {
        if (days < 1 || days > MOST_DAYS_TO_PASS) {
            throw new IllegalArgumentException("no such number of days");
        }
        if (what != 1 && (what < 7 || what > 11)) {
            throw new IndexOutOfBoundsException("no such what");
        }
        trial.copyFrom(now);
        trial.letGo(days);
        return what == 1 ? trial.coins : trial.total(what);
    }

    public int advise(int rent, int days) throws IllegalArgumentException {
        if (rent < 0 || rent > 999 || days < 1 || days > MOST_DAYS_TO_ADVISE) {
            throw new IllegalArgumentException("no such rent or number of days");
        }
        int best = NONE;
        int most = 0;
        for (int gate = NONE; gate < road.gates; gate++) {
            trial.copyFrom(now);
            trial.letGate = gate;
            trial.letRent = rent;
            trial.letGo(days);
            if (gate == NONE || trial.coins > most) {
                best = gate;
                most = trial.coins;
            }
        }
        return best;
    }

    public int widen(int days) throws IllegalArgumentException {
        if (days < 1 || days > MOST_DAYS_TO_ADVISE) {
            throw new IllegalArgumentException("no such number of days");
        }
        int best = NONE;
        int most = 0;
        for (int traffic = 0; traffic < road.traffics; traffic++) {
            trial.copyFrom(now);
            trial.wheels[traffic] = MOST_WHEELS;
            trial.letGo(days);
            int condition = trial.total(7);
            if (best == NONE || condition > most) {
                best = traffic;
                most = condition;
            }
        }
        return best;
    }

    public double mean() {
        return road.miles == 0 ? 0.0 : (double) now.total(7) / road.miles;
    }

    public long digest() {
        long d = 883;
        for (int what = 0; what < WHATS_OF_COUNT; what++) {
            d = d * 31 + count(what);
        }
        for (int mile = 0; mile < road.miles; mile++) {
            for (int what = 0; what < WHATS_OF_A_MILE; what++) {
                d = d * 31 + mile(mile, what);
            }
        }
        for (int stretch = 0; stretch < road.stretches; stretch++) {
            for (int what = 0; what < WHATS_OF_A_STRETCH; what++) {
                d = d * 31 + stretch(stretch, what);
            }
        }
        for (int gate = 0; gate < road.gates; gate++) {
            for (int what = 0; what < WHATS_OF_A_GATE; what++) {
                d = d * 31 + gate(gate, what);
            }
        }
        for (int traffic = 0; traffic < road.traffics; traffic++) {
            for (int what = 0; what < WHATS_OF_A_TRAFFIC; what++) {
                d = d * 31 + traffic(traffic, what);
            }
        }
        return d;
    }

    private static boolean isOutside(int index, int size) {
        return index < 0 || index >= size;
    }

    /** What a row has at an index that comes from the list; 0 outside of it. */
    private static int valueAt(int[] row, int index) {
        return index >= 0 && index < row.length ? row[index] : 0;
    }

    private static int sumOf(int[] row, int size) {
        int sum = 0;
        for (int i = 0; i < size && i < row.length; i++) {
            sum += row[i];
        }
        return sum;
    }

    /** The tokens of a tape, up to its end or to the first that is none. */
    private static final class Tokens {
        final int[] kind = new int[MOST_TOKENS + 1];
        final int[] place = new int[MOST_TOKENS + 1];
        final int[] length = new int[MOST_TOKENS + 1];
        /** Of a number what it is worth; of a name, once the survey has found it, the number of what it names. */
        final int[] value = new int[MOST_TOKENS + 1];
        int count;

        void cut(byte[] tape, int size) {
            int at = 0;
            count = 0;
            for (int i = 0; i <= MOST_TOKENS; i++) {
                at = behindBlanks(tape, at, size);
                place[i] = at;
                length[i] = lengthAt(tape, at, size);
                kind[i] = kindAt(tape, at, size, length[i]);
                if (i == MOST_TOKENS && kind[i] != END_OF_TAPE) {
                    kind[i] = NO_TOKEN;
                }
                value[i] = kind[i] == NUMBER ? numberAt(tape, at, length[i]) : 0;
                if (kind[i] == END_OF_TAPE || kind[i] == NO_TOKEN) {
                    return;
                }
                count = i + 1;
                at += length[i];
            }
        }

        int kindOf(int token) {
            return isOutside(token, kind.length) ? NO_TOKEN : kind[token];
        }

        int placeOf(int token) {
            return valueAt(place, token);
        }

        private static int behindBlanks(byte[] tape, int at, int size) {
            int i = at;
            while (i < size && i < tape.length && (tape[i] == ' ' || tape[i] == '\n')) {
                i++;
            }
            return i;
        }

        /** The length of the longest token here, which may be too long; 0 if none begins. */
        private static int lengthAt(byte[] tape, int at, int size) {
            int end = at;
            int first = byteAt(tape, at, size);
            if (isLetter(first)) {
                while (end < size && isLetterOrDigit(byteAt(tape, end, size))) {
                    end++;
                }
            } else if (isDigit(first)) {
                while (end < size && isDigit(byteAt(tape, end, size))) {
                    end++;
                }
            } else if (isSymbol(first)) {
                boolean mayBeTwo = first == '<' || first == '>';
                end += mayBeTwo && byteAt(tape, at + 1, size) == '=' ? 2 : 1;
            }
            return end - at;
        }

        private static int kindAt(byte[] tape, int at, int size, int length) {
            int first = byteAt(tape, at, size);
            if (at >= size) {
                return END_OF_TAPE;
            }
            if (isLetter(first)) {
                return length > LONGEST_WORD ? NO_TOKEN : wordKind(tape, at, length);
            }
            if (isDigit(first)) {
                return length > LONGEST_NUMBER ? NO_TOKEN : NUMBER;
            }
            if (length == 2) {
                return first == '<' ? AT_MOST : AT_LEAST;
            }
            return length == 1 ? FIRST_SYMBOL + SYMBOLS.indexOf((char) first) : NO_TOKEN;
        }

        private static int wordKind(byte[] tape, int at, int length) {
            int keyword = 0;
            int start = 0;
            for (int i = 0; i <= KEYWORDS.length(); i++) {
                if (i == KEYWORDS.length() || KEYWORDS.charAt(i) == ' ') {
                    if (i - start == length && isKeyword(tape, at, start, length)) {
                        return keyword;
                    }
                    keyword++;
                    start = i + 1;
                }
            }
            return NAME;
        }

        private static boolean isKeyword(byte[] tape, int at, int start, int length) {
            for (int i = 0; i < length; i++) {
                if (start + i >= KEYWORDS.length()
                        || byteAt(tape, at + i, tape.length) != KEYWORDS.charAt(start + i)) {
                    return false;
                }
            }
            return true;
        }

        private static int numberAt(byte[] tape, int at, int length) {
            int number = 0;
            for (int i = 0; i < length; i++) {
                number = number * 10 + byteAt(tape, at + i, tape.length) - '0';
            }
            return number;
        }

        private static int byteAt(byte[] tape, int at, int size) {
            return isOutside(at, size) || at >= tape.length ? 0 : tape[at];
        }

        private static boolean isLetter(int sign) {
            return sign >= 'a' && sign <= 'z';
        }

        private static boolean isDigit(int sign) {
            return sign >= '0' && sign <= '9';
        }

        private static boolean isLetterOrDigit(int sign) {
            return isLetter(sign) || isDigit(sign);
        }

        private static boolean isSymbol(int sign) {
            return sign > 0 && SYMBOLS.indexOf((char) sign) >= 0;
        }
    }

    /** Reads tokens by the grammar, up to the first wrong one, and writes the orders with their tests and sums. */
    private static final class Grammar {
        private final Tokens tokens;
        private Orders orders;
        private boolean wrong;
        /** The token that is looked at; once one is wrong, it stays that one. */
        int at;
        private int kind;

        Grammar(Tokens tokens) {
            this.tokens = tokens;
        }

        int read(Orders into) {
            orders = into;
            wrong = false;
            at = 0;
            kind = tokens.kindOf(at);
            for (int line = 0; line < MOST_TOKENS && !wrong && kind != END_OF_TAPE; line++) {
                readLine();
            }
            return wrong || kind != END_OF_TAPE ? WRONG_TOKEN : 0;
        }

        private void readLine() {
            switch (kind) {
                case STRETCH:
                    needAll(STRETCH_LINE);
                    break;
                case GATE:
                    needAll(GATE_LINE);
                    break;
                case TRAFFIC:
                    needAll(TRAFFIC_LINE);
                    break;
                case FREE:
                    readOrder(FREE_LINE);
                    break;
                case FARM:
                    readOrder(FARM_LINE);
                    break;
                case MEND:
                    readOrder(MEND_LINE);
                    break;
                default:
                    wrong = true;
            }
            need(END_OF_LINE);
        }

        private void readOrder(int[] beginning) {
            int sort = kind;
            int order = orders.begin(sort, at);
            needAll(beginning);
            if (sort == MEND) {
                sum(0);
            }
            orders.endSum(order);
            if (sort != MEND || accept(WHEN)) {
                test(0);
            }
            orders.endTest(order);
        }

        private void test(int depth) {
            both(depth);
            for (int i = 0; i < MOST_TOKENS && accept(OR); i++) {
                both(depth);
                orders.emit(OR, 0);
            }
        }

        private void both(int depth) {
            single(depth);
            for (int i = 0; i < MOST_TOKENS && accept(AND); i++) {
                single(depth);
                orders.emit(AND, 0);
            }
        }

        private void single(int depth) {
            if (wrong) {
                return;
            }
            int first = kind;
            switch (first) {
                case NOT:
                    needDeeper(NOT, depth);
                    single(depth + 1);
                    orders.emit(NOT, 0);
                    break;
                case OPEN_TEST:
                    needDeeper(OPEN_TEST, depth);
                    test(depth + 1);
                    need(CLOSE_TEST);
                    break;
                case FARMED:
                case BROKEN:
                    named(first);
                    break;
                default:
                    sum(depth);
                    int comparing = kind;
                    wrong = wrong || comparing < LESS || comparing > AT_LEAST;
                    need(comparing);
                    sum(depth);
                    orders.emit(comparing, 0);
            }
        }

        private void sum(int depth) {
            product(depth);
            for (int i = 0; i < MOST_TOKENS && !wrong && (kind == PLUS || kind == MINUS); i++) {
                int joining = kind;
                need(joining);
                product(depth);
                orders.emit(joining, 0);
            }
        }

        private void product(int depth) {
            value(depth);
            for (int i = 0; i < MOST_TOKENS && !wrong && (kind == TIMES || kind == DIVIDED); i++) {
                int joining = kind;
                need(joining);
                value(depth);
                orders.emit(joining, 0);
            }
        }

        private void value(int depth) {
            if (wrong) {
                return;
            }
            int first = kind;
            switch (first) {
                case NUMBER:
                case DAY:
                case COINS:
                    orders.emit(first, at);
                    need(first);
                    break;
                case WORST:
                case TAKEN:
                case GAIN:
                case PASSED:
                    named(first);
                    break;
                case CONDITION:
                    need(CONDITION);
                    inBrackets(depth);
                    orders.emit(CONDITION, 0);
                    break;
                case OPEN:
                    inBrackets(depth);
                    break;
                case MINUS:
                    needDeeper(MINUS, depth);
                    value(depth + 1);
                    orders.emit(TURN, 0);
                    break;
                case MIN:
                case MAX:
                    ofTwo(first, depth);
                    break;
                default:
                    wrong = true;
            }
        }

        private void named(int asked) {
            need(asked);
            orders.emit(asked, at);
            need(NAME);
        }

        private void inBrackets(int depth) {
            needDeeper(OPEN, depth);
            sum(depth + 1);
            need(CLOSE);
        }

        private void ofTwo(int function, int depth) {
            need(function);
            needDeeper(OPEN, depth);
            sum(depth + 1);
            need(COMMA);
            sum(depth + 1);
            need(CLOSE);
            orders.emit(function, 0);
        }

        private boolean accept(int wanted) {
            boolean isThere = !wrong && kind == wanted;
            if (isThere) {
                need(wanted);
            }
            return isThere;
        }

        private void need(int wanted) {
            if (wrong || kind != wanted) {
                wrong = true;
                return;
            }
            at++;
            kind = at < tokens.kind.length ? tokens.kind[at] : NO_TOKEN;
        }

        private void needAll(int[] kinds) {
            for (int i = 0; i < kinds.length; i++) {
                need(kinds[i]);
            }
        }

        private void needDeeper(int wanted, int depth) {
            wrong = wrong || depth >= MOST_DEPTH;
            need(wanted);
        }
    }

    /** The orders of a road; their sums and tests stand in rows of operations, each behind what it works on. */
    private static final class Orders {
        int count;
        final int[] sort = new int[MOST_ORDERS];
        /** The first token of the order. */
        private final int[] line = new int[MOST_ORDERS];
        /** Of a free its traffic, of a farm its gate, of a mend its stretch. */
        final int[] whom = new int[MOST_ORDERS];
        /** Of a free its gate, of a farm its rent. */
        final int[] what = new int[MOST_ORDERS];
        final int[] sumFrom = new int[MOST_ORDERS];
        final int[] testFrom = new int[MOST_ORDERS];
        final int[] testTo = new int[MOST_ORDERS];
        private int operations;
        final int[] operation = new int[MOST_TOKENS];
        /** Until link() the token that tells what the operation takes, then what it takes. */
        final int[] operand = new int[MOST_TOKENS];

        void clear() {
            count = 0;
            operations = 0;
        }

        /** Of too many orders the last ones share a row: the survey refuses such a list. */
        int begin(int orderSort, int token) {
            int order = count < MOST_ORDERS ? count : MOST_ORDERS - 1;
            count = order + 1;
            sort[order] = orderSort;
            line[order] = token;
            sumFrom[order] = operations;
            return order;
        }

        void endSum(int order) {
            testFrom[order] = operations;
        }

        void endTest(int order) {
            testTo[order] = operations;
        }

        void emit(int kind, int token) {
            if (operations < MOST_TOKENS) {
                operation[operations] = kind;
                operand[operations] = token;
                operations++;
            }
        }

        void link(Tokens tokens) {
            for (int i = 0; i < operations; i++) {
                operand[i] = valueAt(tokens.value, operand[i]);
            }
            for (int order = 0; order < count; order++) {
                whom[order] = valueAt(tokens.value, line[order] + 1);
                what[order] = valueAt(tokens.value, line[order] + 3);
            }
        }
    }

    /** What is told of stretches, gates and traffics, and the orders. */
    private static final class Road {
        int stretches;
        int miles;
        int gates;
        int traffics;
        final int[] stretchMiles = new int[MOST_STRETCHES];
        final int[] firstMile = new int[MOST_STRETCHES];
        final int[] soft = new int[MOST_STRETCHES];
        final int[] mileStretch = new int[MOST_MILES];
        final int[] gateMile = new int[MOST_GATES];
        final int[] gateToll = new int[MOST_GATES];
        final int[] weight = new int[MOST_TRAFFICS];
        final int[] firstWheels = new int[MOST_TRAFFICS];
        final int[] from = new int[MOST_TRAFFICS];
        final int[] to = new int[MOST_TRAFFICS];
        final int[] every = new int[MOST_TRAFFICS];
        final Orders orders = new Orders();

        void clear() {
            stretches = 0;
            miles = 0;
            gates = 0;
            traffics = 0;
            orders.clear();
        }

        /** Lays the miles of the latest stretch behind all others. */
        void layMiles(int stretch, int number) {
            stretchMiles[stretch] = number;
            firstMile[stretch] = miles;
            for (int i = 0; i < number && miles < MOST_MILES; i++) {
                mileStretch[miles] = stretch;
                miles++;
            }
        }

        int gatesAt(int mile) {
            int number = 0;
            for (int gate = 0; gate < gates; gate++) {
                if (gateMile[gate] == mile) {
                    number++;
                }
            }
            return number;
        }

        int trafficsBy(int mile) {
            int number = 0;
            for (int traffic = 0; traffic < traffics; traffic++) {
                boolean up = from[traffic] <= mile && mile <= to[traffic];
                boolean down = to[traffic] <= mile && mile <= from[traffic];
                if (up || down) {
                    number++;
                }
            }
            return number;
        }
    }

    /** Looks at keywords, names and numbers of a list without a wrong token, and sets down the road that it tells. */
    private static final class Survey {
        private final Tokens tokens;
        private final byte[] tape;
        private Road road;
        /** The tokens with the names that were told so far. */
        private final int[] stretchNames = new int[MOST_STRETCHES];
        private final int[] gateNames = new int[MOST_GATES];
        private final int[] trafficNames = new int[MOST_TRAFFICS];
        /** The token that is looked at; behind a look that found an error, its token. */
        int at;

        Survey(Tokens tokens, byte[] tape) {
            this.tokens = tokens;
            this.tape = tape;
        }

        int look(Road into) {
            road = into;
            int orders = 0;
            int error = 0;
            int before = END_OF_LINE;
            for (int i = 0; i < tokens.count; i++) {
                at = i;
                int kind = tokens.kindOf(i);
                if (kind == FREE || kind == FARM || kind == MEND) {
                    orders++;
                    error = orders > MOST_ORDERS ? TOO_MANY : 0;
                } else if (kind == NAME) {
                    error = lookAtName(before);
                } else if (kind == NUMBER) {
                    error = lookAtNumber(before);
                }
                if (error != 0) {
                    return error;
                }
                before = kind;
            }
            return 0;
        }

        private int lookAtName(int before) {
            switch (before) {
                case STRETCH:
                case GATE:
                case TRAFFIC:
                    return tellName(before);
                case MEND:
                case WORST:
                case BROKEN:
                    return findName(stretchNames, road.stretches);
                case AT:
                case FARM:
                case TAKEN:
                case GAIN:
                case FARMED:
                    return findName(gateNames, road.gates);
                default:
                    return findName(trafficNames, road.traffics);
            }
        }

        private int tellName(int sort) {
            int[] names = sort == STRETCH ? stretchNames : sort == GATE ? gateNames : trafficNames;
            int told = sort == STRETCH ? road.stretches : sort == GATE ? road.gates : road.traffics;
            if (numberOfName(names, told) != NONE) {
                return TOLD_TWICE;
            }
            if (told >= names.length) {
                return TOO_MANY;
            }
            names[told] = at;
            if (sort == STRETCH) {
                road.stretches++;
            } else if (sort == GATE) {
                road.gates++;
            } else {
                road.traffics++;
            }
            return 0;
        }

        private int findName(int[] names, int told) {
            int number = numberOfName(names, told);
            if (number == NONE) {
                return NOT_TOLD;
            }
            tokens.value[at] = number;
            return 0;
        }

        private int numberOfName(int[] names, int told) {
            for (int i = 0; i < told && i < names.length; i++) {
                if (isSameName(names[i], at)) {
                    return i;
                }
            }
            return NONE;
        }

        private boolean isSameName(int one, int other) {
            int length = valueAt(tokens.length, one);
            if (length != valueAt(tokens.length, other)) {
                return false;
            }
            for (int i = 0; i < length; i++) {
                int sign = Tokens.byteAt(tape, tokens.placeOf(one) + i, tape.length);
                if (sign != Tokens.byteAt(tape, tokens.placeOf(other) + i, tape.length)) {
                    return false;
                }
            }
            return true;
        }

        private int lookAtNumber(int before) {
            int number = tokens.value[at];
            for (int i = 0; i + 2 < RANGES.length; i += 3) {
                if (RANGES[i] == before && (number < RANGES[i + 1] || number > RANGES[i + 2])) {
                    return OUT_OF_RANGE;
                }
            }
            boolean isMile = before == AT || before == FROM || before == TO;
            if (isMile && number >= road.miles) {
                return OUT_OF_RANGE;
            }
            setDown(before, number);
            return 0;
        }

        private void setDown(int before, int number) {
            int stretch = road.stretches - 1;
            int gate = road.gates - 1;
            int traffic = road.traffics - 1;
            switch (before) {
                case MILES:
                    if (stretch >= 0) {
                        road.layMiles(stretch, number);
                    }
                    break;
                case SOFT:
                    put(road.soft, stretch, number);
                    break;
                case AT:
                    put(road.gateMile, gate, number);
                    break;
                case TOLL:
                    put(road.gateToll, gate, number);
                    break;
                case WEIGHT:
                    put(road.weight, traffic, number);
                    break;
                case WHEELS:
                    put(road.firstWheels, traffic, number);
                    break;
                case FROM:
                    put(road.from, traffic, number);
                    break;
                case TO:
                    put(road.to, traffic, number);
                    break;
                case EVERY:
                    put(road.every, traffic, number);
                    break;
                default:
                    // a rent or a number of a sum, which the orders fetch from the token
            }
        }

        private static void put(int[] row, int index, int number) {
            if (!isOutside(index, row.length)) {
                row[index] = number;
            }
        }
    }

    /** How a road and its trust are on a day, and how a day goes. */
    private static final class Trust {
        private final Reckoner reckoner;
        Road road;
        int day;
        int coins;
        final int[] condition = new int[MOST_MILES];
        final int[] worn = new int[MOST_MILES];
        final int[] spent = new int[MOST_STRETCHES];
        final int[] toll = new int[MOST_GATES];
        final int[] taken = new int[MOST_GATES];
        final int[] gain = new int[MOST_GATES];
        final int[] rent = new int[MOST_GATES];
        /** What the farmers have taken on this day. */
        final int[] farmersTake = new int[MOST_GATES];
        final int[] wheels = new int[MOST_TRAFFICS];
        final int[] passed = new int[MOST_TRAFFICS];
        final int[] turned = new int[MOST_TRAFFICS];
        final int[] paid = new int[MOST_TRAFFICS];
        /** A gate that is farmed out whatever the orders say, and its rent. */
        int letGate;
        int letRent;

        Trust(Road road, Reckoner reckoner) {
            this.reckoner = reckoner;
            this.road = road;
            coins = FIRST_COINS;
            letGate = NONE;
        }

        /** All begins anew but the day. */
        void begin(Road newRoad) {
            road = newRoad;
            coins = FIRST_COINS;
            for (int mile = 0; mile < MOST_MILES; mile++) {
                condition[mile] = FULL_CONDITION;
                worn[mile] = 0;
            }
            for (int stretch = 0; stretch < MOST_STRETCHES; stretch++) {
                spent[stretch] = 0;
            }
            for (int gate = 0; gate < MOST_GATES; gate++) {
                toll[gate] = road.gateToll[gate];
                taken[gate] = 0;
                gain[gate] = 0;
                rent[gate] = NOT_FARMED;
                farmersTake[gate] = 0;
            }
            for (int traffic = 0; traffic < MOST_TRAFFICS; traffic++) {
                wheels[traffic] = road.firstWheels[traffic];
                passed[traffic] = 0;
                turned[traffic] = 0;
                paid[traffic] = 0;
            }
        }

        void copyFrom(Trust other) {
            road = other.road;
            day = other.day;
            coins = other.coins;
            letGate = other.letGate;
            letRent = other.letRent;
            System.arraycopy(other.condition, 0, condition, 0, MOST_MILES);
            System.arraycopy(other.worn, 0, worn, 0, MOST_MILES);
            System.arraycopy(other.spent, 0, spent, 0, MOST_STRETCHES);
            System.arraycopy(other.toll, 0, toll, 0, MOST_GATES);
            System.arraycopy(other.taken, 0, taken, 0, MOST_GATES);
            System.arraycopy(other.gain, 0, gain, 0, MOST_GATES);
            System.arraycopy(other.rent, 0, rent, 0, MOST_GATES);
            System.arraycopy(other.farmersTake, 0, farmersTake, 0, MOST_GATES);
            System.arraycopy(other.wheels, 0, wheels, 0, MOST_TRAFFICS);
            System.arraycopy(other.passed, 0, passed, 0, MOST_TRAFFICS);
            System.arraycopy(other.turned, 0, turned, 0, MOST_TRAFFICS);
            System.arraycopy(other.paid, 0, paid, 0, MOST_TRAFFICS);
        }

        /** The totals that count() tells, by its numbers 7 to 11. */
        int total(int what) {
            switch (what) {
                case 7: return sumOf(condition, road.miles);
                case 8: return brokenMilesIn(0, road.miles);
                case 9: return sumOf(taken, road.gates);
                case 10: return sumOf(gain, road.gates);
                default: return sumOf(spent, road.stretches);
            }
        }

        private int brokenMilesIn(int first, int number) {
            int broken = 0;
            for (int i = 0; i < number && first + i < MOST_MILES; i++) {
                if (condition[first + i] == 0) {
                    broken++;
                }
            }
            return broken;
        }

        int brokenMilesOf(int stretch) {
            return brokenMilesIn(valueAt(road.firstMile, stretch), valueAt(road.stretchMiles, stretch));
        }

        int leastCondition(int stretch) {
            int first = valueAt(road.firstMile, stretch);
            int end = first + valueAt(road.stretchMiles, stretch);
            int least = FULL_CONDITION;
            for (int mile = first; mile < end && mile < MOST_MILES; mile++) {
                if (condition[mile] < least) {
                    least = condition[mile];
                }
            }
            return least;
        }

        private int worstMile(int stretch) {
            int worst = valueAt(road.firstMile, stretch);
            int end = worst + valueAt(road.stretchMiles, stretch);
            for (int mile = worst; mile < end && mile < MOST_MILES; mile++) {
                if (condition[mile] < condition[worst]) {
                    worst = mile;
                }
            }
            return worst;
        }

        int tollOf(int traffic, int gate) {
            if (wheels[traffic] < NARROWEST_USUAL) {
                return toll[gate] * 2;
            }
            return wheels[traffic] > WIDEST_USUAL ? toll[gate] / 2 : toll[gate];
        }

        void keepCoinsInBounds() {
            if (coins > MOST_COINS) {
                coins = MOST_COINS;
            }
        }

        /** Spends up to so many coins for a stretch, and tells how many. */
        int spend(int stretch, int most) {
            int used = 0;
            for (int coin = 0; coin < most; coin++) {
                int mile = worstMile(stretch);
                if (isOutside(mile, MOST_MILES) || condition[mile] >= FULL_CONDITION) {
                    break;
                }
                condition[mile] = Math.min(FULL_CONDITION, condition[mile] + CONDITION_OF_A_COIN);
                used++;
            }
            coins -= used;
            spent[stretch] += used;
            return used;
        }

        /** Lets days go by, and tells how often traffics pass in them. */
        int letGo(int days) {
            int before = sumOf(passed, road.traffics);
            for (int i = 0; i < days; i++) {
                farmOut();
                for (int traffic = 0; traffic < road.traffics; traffic++) {
                    int every = road.every[traffic];
                    if (every > 0 && day % every == 0) {
                        travel(traffic);
                    }
                }
                settleRents();
                mendByOrders();
                day++;
                keepCoinsInBounds();
            }
            return sumOf(passed, road.traffics) - before;
        }

        /** One gate behind the other, as the tests of later gates see that earlier ones had their turn. */
        private void farmOut() {
            for (int gate = 0; gate < road.gates; gate++) {
                rent[gate] = gate == letGate ? letRent : rentByOrders(gate);
                farmersTake[gate] = 0;
            }
        }

        private int rentByOrders(int gate) {
            Orders orders = road.orders;
            for (int i = 0; i < orders.count; i++) {
                if (orders.sort[i] == FARM && orders.whom[i] == gate
                        && reckoner.reckon(this, orders.testFrom[i], orders.testTo[i]) != 0) {
                    return orders.what[i];
                }
            }
            return NOT_FARMED;
        }

        /** Sends a traffic on its way, and tells the mile at which it turns back, -1 if it passes. */
        int travel(int traffic) {
            int step = road.from[traffic] <= road.to[traffic] ? 1 : -1;
            int miles = (road.to[traffic] - road.from[traffic]) * step + 1;
            for (int i = 0; i < miles; i++) {
                int mile = road.from[traffic] + i * step;
                if (isOutside(mile, road.miles)) {
                    break;
                }
                if (condition[mile] == 0) {
                    turned[traffic]++;
                    return mile;
                }
                for (int gate = 0; gate < road.gates; gate++) {
                    if (road.gateMile[gate] == mile && !isFree(traffic, gate)) {
                        pay(traffic, gate);
                    }
                }
                wear(traffic, mile);
            }
            passed[traffic]++;
            return NONE;
        }

        private boolean isFree(int traffic, int gate) {
            Orders orders = road.orders;
            for (int i = 0; i < orders.count; i++) {
                if (orders.sort[i] == FREE && orders.whom[i] == traffic && orders.what[i] == gate
                        && reckoner.reckon(this, orders.testFrom[i], orders.testTo[i]) != 0) {
                    return true;
                }
            }
            return false;
        }

        private void pay(int traffic, int gate) {
            int due = tollOf(traffic, gate);
            paid[traffic] += due;
            taken[gate] += due;
            if (rent[gate] == NOT_FARMED) {
                coins += due;
            } else {
                farmersTake[gate] += due;
            }
        }

        private void wear(int traffic, int mile) {
            int load = road.weight[traffic] * valueAt(road.soft, road.mileStretch[mile]);
            int wear = wheels[traffic] > 0 ? load / wheels[traffic] : 0;
            int less = Math.min(wear, condition[mile]);
            condition[mile] -= less;
            worn[mile] += less;
        }

        private void settleRents() {
            for (int gate = 0; gate < road.gates; gate++) {
                if (rent[gate] != NOT_FARMED) {
                    coins += rent[gate];
                    gain[gate] += farmersTake[gate] - rent[gate];
                }
            }
        }

        private void mendByOrders() {
            Orders orders = road.orders;
            for (int i = 0; i < orders.count; i++) {
                boolean hasTest = orders.testFrom[i] < orders.testTo[i];
                if (orders.sort[i] == MEND && !isOutside(orders.whom[i], road.stretches)
                        && (!hasTest || reckoner.reckon(this, orders.testFrom[i], orders.testTo[i]) != 0)) {
                    int wanted = reckoner.reckon(this, orders.sumFrom[i], orders.testFrom[i]);
                    spend(orders.whom[i], Math.min(wanted, coins));
                }
            }
        }
    }

    /** Reckons sums and tests; a test is 1 if it holds, 0 if not. */
    private static final class Reckoner {
        private final int[] stack = new int[MOST_TOKENS];

        int reckon(Trust trust, int from, int to) {
            Orders orders = trust.road.orders;
            int top = 0;
            for (int i = from; i < to && i < MOST_TOKENS; i++) {
                int operation = orders.operation[i];
                if (operation == TURN || operation == NOT || operation == CONDITION) {
                    if (top >= 1) {
                        stack[top - 1] = ofOne(trust, operation, stack[top - 1]);
                    }
                } else if (isOfTwo(operation)) {
                    if (top >= 2) {
                        top--;
                        stack[top - 1] = ofTwo(operation, stack[top - 1], stack[top]);
                    }
                } else if (top < MOST_TOKENS) {
                    stack[top] = ofNone(trust, operation, orders.operand[i]);
                    top++;
                }
            }
            return top >= 1 ? stack[top - 1] : 0;
        }

        private static boolean isOfTwo(int operation) {
            return operation >= PLUS && operation <= AT_LEAST || operation >= AND && operation <= MAX;
        }

        private static int ofNone(Trust trust, int operation, int operand) {
            switch (operation) {
                case NUMBER: return operand;
                case DAY: return trust.day;
                case COINS: return trust.coins;
                case WORST: return trust.leastCondition(operand);
                case TAKEN: return valueAt(trust.taken, operand);
                case GAIN: return valueAt(trust.gain, operand);
                case PASSED: return valueAt(trust.passed, operand);
                case FARMED: return valueAt(trust.rent, operand) != NOT_FARMED ? 1 : 0;
                case BROKEN: return trust.leastCondition(operand) == 0 ? 1 : 0;
                default: return 0;
            }
        }

        private static int ofOne(Trust trust, int operation, int value) {
            switch (operation) {
                case TURN: return -value;
                case NOT: return value == 0 ? 1 : 0;
                default: return value < trust.road.miles ? valueAt(trust.condition, value) : 0;
            }
        }

        private static int ofTwo(int operation, int left, int right) {
            switch (operation) {
                case PLUS: return left + right;
                case MINUS: return left - right;
                case TIMES: return left * right;
                case DIVIDED: return right == 0 ? 0 : left / right;
                case LESS: return left < right ? 1 : 0;
                case MORE: return left > right ? 1 : 0;
                case EQUAL: return left == right ? 1 : 0;
                case AT_MOST: return left <= right ? 1 : 0;
                case AT_LEAST: return left >= right ? 1 : 0;
                case AND: return left & right;
                case OR: return left | right;
                case MIN: return left < right ? left : right;
                default: return left > right ? left : right;
            }
        }
    }
}
