import java.util.Random;

/** All promises: many runs of calls, each answer held against that of the model. */
public final class ModelTest {
    private static final int RUNS = 400;
    private static final int CALLS_OF_A_RUN = 150;
    private static final int LISTS_ALONE = 20000;
    private static final int[] EDGES = {-1, 0, 1, 2, 9, 12, 13, 16, 17, 60, 61, 90, 91, 120, 121, 200, 999, 1000, 9999,
        10000, Integer.MAX_VALUE, Integer.MIN_VALUE};

    private final Random random;
    private final Lists lists;
    private final TollTrustees x = new TollTrustees();
    private final Model model = new Model();
    private String told = "";

    private ModelTest(long seed) {
        random = new Random(seed);
        lists = new Lists(seed);
    }

    public static void main(String[] args) {
        int runs = args.length > 0 ? Integer.parseInt(args[0]) : RUNS;
        for (int run = 0; run < runs; run++) {
            new ModelTest(run).run();
        }
        int[] errors = new int[6];
        ModelTest test = new ModelTest(-1);
        for (int i = 0; i < (args.length > 0 ? runs * 50 : LISTS_ALONE); i++) {
            errors[test.teach()]++;
            Checks.due("digest of " + test.told, test.model.digest(), test.x::digest);
        }
        for (int error = 0; error < errors.length; error++) {
            System.out.println("lists alone with error " + error + ": " + errors[error]);
        }
        Checks.end("ModelTest");
    }

    private int to(int n) {
        return random.nextInt(n);
    }

    /** Mostly below size, else about it or at some edge. */
    private int index(int size) {
        if (to(25) == 0) {
            return to(2) == 0 ? size : EDGES[to(EDGES.length)];
        }
        return size == 0 ? 0 : to(size);
    }

    private int within(int least, int most) {
        if (to(25) == 0) {
            return to(2) == 0 ? least - 1 + to(2) * (most - least + 2) : EDGES[to(EDGES.length)];
        }
        return least + to(most - least + 1);
    }

    private void run() {
        teach();
        for (int i = 0; i < CALLS_OF_A_RUN; i++) {
            call();
            same("digest()", model::digest, x::digest);
        }
    }

    private void same(String call, Checks.Call due, Checks.Call asked) {
        Object want;
        try {
            want = due.answer();
        } catch (IndexOutOfBoundsException e) {
            want = IndexOutOfBoundsException.class;
        } catch (IllegalArgumentException e) {
            want = IllegalArgumentException.class;
        } catch (IllegalStateException e) {
            want = IllegalStateException.class;
        }
        Checks.due(call + " with " + told, want, asked);
    }

    private int teach() {
        String list = lists.list();
        int[] numbers = new int[5];
        same("trim", () -> model.trim(0), () -> x.trim(0));
        for (int at = 0; at < list.length(); at += 20) {
            for (int i = 0; i < 20; i++) {
                int sign = at + i < list.length() ? list.charAt(at + i) : 0;
                numbers[i / 4] = numbers[i / 4] << 8 | sign;
            }
            same("feed", () -> model.feed(numbers), () -> x.feed(numbers[0], numbers[1], numbers[2], numbers[3],
                    numbers[4]));
        }
        same("trim", () -> model.trim(list.length()), () -> x.trim(list.length()));
        int[] error = new int[1];
        String before = told;
        told = list;
        same("teach()", () -> error[0] = model.teach(), x::teach);
        same("errorAt()", model::errorAt, x::errorAt);
        told = error[0] == 0 ? list : before;
        return error[0];
    }

    private void call() {
        int stretch = index(x.count(2));
        int mile = index(x.count(3));
        int gate = index(x.count(4));
        int traffic = index(x.count(5));
        switch (to(28)) {
            case 0: askMile(mile, index(4)); break;
            case 1: askStretch(stretch, index(6)); break;
            case 2: askGate(gate, index(6)); break;
            case 3: askTraffic(traffic, index(8)); break;
            case 4: same("toll", () -> model.toll(traffic, gate), () -> x.toll(traffic, gate)); break;
            case 5: case 6: case 7: askJourney(traffic, index(3)); break;
            case 8: same("worst", model::worst, x::worst); break;
            case 9: setToll(gate, within(0, 60)); break;
            case 10: setWheels(traffic, within(1, 16)); break;
            case 11: mend(stretch, to(2) == 0 ? within(1, 20) : within(1, 999)); break;
            case 12: grant(to(2) == 0 ? within(1, 100) : within(1, 9999)); break;
            case 13: case 14: case 15: pass(1 + to(3)); break;
            case 16: case 17: pass(within(1, 20)); break;
            case 18: pass(within(1, 120)); break;
            case 19: case 20: same("until " + mile, () -> model.until(mile), () -> x.until(mile)); break;
            case 21: foresee(within(1, 120), to(10) == 0 ? within(0, 12) : 6 + to(6)); break;
            case 22: advise(within(0, 999), within(1, 90)); break;
            case 23: advise(within(0, 40), within(1, 10)); break;
            case 24: widen(within(1, 90)); break;
            case 25: same("mean", model::mean, x::mean); break;
            case 26: askCount(index(13)); break;
            default: maybeTeach(); break;
        }
    }

    private void maybeTeach() {
        if (to(4) == 0) {
            teach();
        } else {
            same("feed", () -> model.feed(1, -1, 2, 3, 4), () -> x.feed(1, -1, 2, 3, 4));
            int n = within(0, 40);
            same("trim " + n, () -> model.trim(n), () -> x.trim(n));
        }
    }

    private void askCount(int what) {
        same("count " + what, () -> model.count(what), () -> x.count(what));
    }

    private void askMile(int mile, int what) {
        same("mile " + mile + ", " + what, () -> model.mile(mile, what), () -> x.mile(mile, what));
    }

    private void askStretch(int stretch, int what) {
        same("stretch " + stretch + ", " + what, () -> model.stretch(stretch, what), () -> x.stretch(stretch, what));
    }

    private void askGate(int gate, int what) {
        same("gate " + gate + ", " + what, () -> model.gate(gate, what), () -> x.gate(gate, what));
    }

    private void askTraffic(int traffic, int what) {
        same("traffic " + traffic + ", " + what, () -> model.traffic(traffic, what), () -> x.traffic(traffic, what));
    }

    private void askJourney(int traffic, int what) {
        same("journey " + traffic + ", " + what, () -> model.journey(traffic, what), () -> x.journey(traffic, what));
    }

    private void setToll(int gate, int toll) {
        same("setToll " + gate + ", " + toll, () -> model.setToll(gate, toll), () -> x.setToll(gate, toll));
    }

    private void setWheels(int traffic, int wheels) {
        same("setWheels " + traffic + ", " + wheels, () -> model.setWheels(traffic, wheels),
                () -> x.setWheels(traffic, wheels));
    }

    private void mend(int stretch, int coins) {
        same("mend " + stretch + ", " + coins, () -> model.mend(stretch, coins), () -> x.mend(stretch, coins));
    }

    private void grant(int coins) {
        same("grant " + coins, () -> model.grant(coins), () -> x.grant(coins));
    }

    private void pass(int days) {
        same("pass " + days, () -> model.pass(days), () -> x.pass(days));
    }

    private void foresee(int days, int what) {
        int asked = what == 6 ? 1 : what;
        same("foresee " + days + ", " + asked, () -> model.foresee(days, asked), () -> x.foresee(days, asked));
    }

    private void advise(int rent, int days) {
        same("advise " + rent + ", " + days, () -> model.advise(rent, days), () -> x.advise(rent, days));
    }

    private void widen(int days) {
        same("widen " + days, () -> model.widen(days), () -> x.widen(days));
    }
}
