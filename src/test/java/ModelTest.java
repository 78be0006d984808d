import java.util.Random;

/** Runs of calls drawn from fixed seeds: each answer and each exception is the plain model's. */
public final class ModelTest {
    private static final int RUNS = 3000;
    private static final int BIG = 100000000;
    private static final int[] ODD = {-2, -1, 10001, 20001, 100001, BIG + 1, Integer.MIN_VALUE, Integer.MAX_VALUE};

    private static Due due;

    private final Random random;
    private final HarvestPlans x;
    private final PlainModel model;
    private final int weeks;
    /** Sizes, loads and bounds are drawn up to this, so that some farms are tight and some are of the greatest. */
    private final int scale;
    private final int[] results;

    private ModelTest(long seed, int[] results) {
        random = new Random(seed);
        int told = random.nextInt(12) - 1;
        weeks = Math.max(1, Math.min(8, told));
        x = new HarvestPlans(told);
        model = new PlainModel(told);
        scale = random.nextInt(8) == 0 ? 100000 : 1 + random.nextInt(12);
        this.results = results;
    }

    public static void main(String[] args) {
        due = new Due("ModelTest");
        int[] results = new int[4];
        for (int seed = 0; seed < RUNS && due.wrongSoFar() == 0; seed++) {
            ModelTest test = new ModelTest(seed, results);
            if (seed % 3 != 0) {
                test.setUp();
            }
            int calls = 20 + test.random.nextInt(100);
            for (int i = 0; i < calls && due.wrongSoFar() == 0; i++) {
                test.drawCall("seed " + seed + " call " + i + ": ");
            }
        }
        for (int i = 0; i < 4; i++) {
            if (results[i] < 50) {
                due.tell("too few runs that answer " + i + ": " + results[i]);
            }
        }
        due.end();
    }

    private interface Call {
        long answer();
    }

    private void same(String what, Call real, Call plain) {
        String got = outcome(real);
        String want = outcome(plain);
        due.is(what + " answered " + got + ", by the model " + want, true, got.equals(want));
    }

    private static String outcome(Call call) {
        try {
            return Long.toString(call.answer());
        } catch (RuntimeException e) {
            return "throws." + e.getClass().getName();
        }
    }

    private static long bit(boolean is) {
        return is ? 1 : 0;
    }

    /** A number of 0 .. most, now and then an odd one. */
    private int upTo(int most) {
        return random.nextInt(60) == 0 ? ODD[random.nextInt(ODD.length)] : random.nextInt(most + 1);
    }

    private int week() {
        return random.nextInt(40) == 0 ? weeks : upTo(weeks - 1);
    }

    private int grams() {
        return random.nextInt(6) == 0 ? upTo(20000) : 500 * upTo(6);
    }

    private void setUp() {
        int places = 1 + random.nextInt(3);
        for (int i = 0; i < places; i++) {
            place("set up: ");
        }
        int cages = 1 + random.nextInt(6);
        for (int i = 0; i < cages; i++) {
            cage("set up: ");
            for (int w = 0; w < weeks; w++) {
                size("set up: ", i, w);
            }
        }
        for (int i = random.nextInt(4); i > 0; i--) {
            boat("set up: ");
        }
        for (int i = random.nextInt(5); i > 0; i--) {
            order("set up: ");
        }
        for (int w = 0; w < weeks; w++) {
            plant("set up: ", w);
        }
        prices("set up: ");
    }

    private void drawCall(String at) {
        switch (random.nextInt(22)) {
            case 0 -> place(at);
            case 1 -> closed(at);
            case 2 -> cage(at);
            case 3 -> size(at, upTo(5), week());
            case 4 -> boat(at);
            case 5 -> weather(at);
            case 6 -> plant(at, week());
            case 7 -> order(at);
            case 8 -> prices(at);
            case 9, 10 -> run(at);
            case 11, 12, 13, 14, 15, 16 -> move(at);
            default -> lookAtAll(at);
        }
    }

    private void place(String at) {
        int most = random.nextInt(3) == 0 ? upTo(4 * scale) : random.nextInt(2) == 0 ? BIG : 6 * scale;
        same(at + "place " + most, () -> x.place(most), () -> model.place(most));
    }

    private void closed(String at) {
        int place = upTo(2);
        int week = week();
        boolean is = random.nextInt(3) == 0;
        same(at + "closed", () -> bit(x.closed(place, week, is)), () -> bit(model.closed(place, week, is)));
    }

    private void cage(String at) {
        int place = upTo(1);
        same(at + "cage " + place, () -> x.cage(place), () -> model.cage(place));
    }

    private void size(String at, int cage, int week) {
        int grams = grams();
        int fish = upTo(scale);
        same(at + "size", () -> x.size(cage, week, grams, fish), () -> model.size(cage, week, grams, fish));
    }

    private void boat(String at) {
        int load = upTo(3 * scale);
        same(at + "boat " + load, () -> x.boat(load), () -> model.boat(load));
    }

    private void weather(String at) {
        int boat = upTo(2);
        int week = week();
        boolean is = random.nextInt(3) == 0;
        same(at + "weather", () -> bit(x.weather(boat, week, is)), () -> bit(model.weather(boat, week, is)));
    }

    private void plant(String at, int week) {
        int kilos = random.nextInt(4) == 0 ? BIG : upTo(5 * scale);
        same(at + "plant", () -> x.plant(week, kilos), () -> model.plant(week, kilos));
    }

    private void order(String at) {
        int week = week();
        int one = grams();
        int other = grams();
        boolean turned = random.nextInt(20) == 0;
        int least = turned ? Math.max(one, other) : Math.min(one, other);
        int most = turned ? Math.min(one, other) : Math.max(one, other);
        int kilos = random.nextInt(4) == 0 ? BIG : upTo(3 * scale);
        int cents = random.nextInt(8) == 0 ? upTo(10000) : upTo(5);
        same(at + "order", () -> x.order(week, least, most, kilos, cents),
                () -> model.order(week, least, most, kilos, cents));
    }

    private void prices(String at) {
        int spot = random.nextInt(8) == 0 ? upTo(10000) : upTo(4);
        int keep = random.nextInt(8) == 0 ? upTo(10000) : upTo(4);
        same(at + "prices", () -> {
            x.prices(spot, keep);
            return 0;
        }, () -> {
            model.prices(spot, keep);
            return 0;
        });
    }

    private void run(String at) {
        int nodes = random.nextInt(30) == 0 ? 5000 + random.nextInt(2) : random.nextInt(1 + (1 << random.nextInt(11)));
        same(at + "run " + nodes, () -> {
            int result = x.run(nodes);
            results[result]++;
            return result;
        }, () -> model.run(nodes));
        lookAtAll(at + "run " + nodes + " then ");
    }

    private void move(String at) {
        int cage = upTo(5);
        int week = random.nextInt(4) == 0 ? -1 : week();
        same(at + "move", () -> x.move(cage, week), () -> model.move(cage, week));
    }

    private void lookAtAll(String at) {
        same(at + "nodes", x::nodes, model::nodes);
        same(at + "hope", x::hope, model::hope);
        same(at + "check", x::check, model::check);
        same(at + "worth", x::worth, model::worth);
        for (int i = -1; i <= 6; i++) {
            int number = i;
            same(at + "taken " + i, () -> x.taken(number), () -> model.taken(number));
            same(at + "sold " + i, () -> x.sold(number), () -> model.sold(number));
        }
    }
}
