import java.util.ArrayList;
import java.util.List;

/** Which exception is thrown, that a call that throws changes nothing, and that a change leaves no plan at hand. */
public final class RefusedCallsTest {
    private static final int NONE = Farms.NONE;
    private static final int WEEKS = 3;

    private static Due due;

    private interface Call {
        long on(HarvestPlans x);
    }

    private interface Change {
        void on(HarvestPlans x);
    }

    private record Refused(String what, Class<?> thrown, Change call) {
    }

    public static void main(String[] args) {
        due = new Due("RefusedCallsTest");
        theOneNamedFirst();
        nothingIsChanged();
        changesLeaveNoPlan();
        changesLeaveNoPlanOfARun();
        due.end();
    }

    private static void theOneNamedFirst() {
        due.of("Of several exceptions the one named first is thrown");
        HarvestPlans x = Farms.full(WEEKS);
        due.refuses("place, full", Due.STATE, () -> x.place(0));
        due.refuses("cage, full", Due.STATE, () -> x.cage(0));
        due.refuses("boat, full", Due.STATE, () -> x.boat(0));
        due.refuses("order, full", Due.STATE, () -> x.order(0, 0, 0, 0, 0));
        due.refuses("sold, no plan", Due.STATE, () -> x.sold(0));
        for (int wrong : Farms.outside(Farms.MOST_KILOS)) {
            due.refuses("place of " + wrong + ", full", Due.ARGUMENT, () -> x.place(wrong));
            due.refuses("boat of " + wrong + ", full", Due.ARGUMENT, () -> x.boat(wrong));
            due.refuses("order of kilos " + wrong + ", full", Due.ARGUMENT, () -> x.order(0, 0, 1, wrong, 1));
        }
        for (int wrong : Farms.outside(3)) {
            due.refuses("cage at " + wrong + ", full", Due.ARGUMENT, () -> x.cage(wrong));
        }
        for (int wrong : Farms.outside(5)) {
            due.refuses("sold " + wrong + ", no plan", Due.ARGUMENT, () -> x.sold(wrong));
        }
        due.refuses("order of a week that is not, full", Due.ARGUMENT, () -> x.order(WEEKS, 0, 1, 1, 1));
        due.refuses("order of least -1, full", Due.ARGUMENT, () -> x.order(0, -1, 1, 1, 1));
        due.refuses("order of most 20001, full", Due.ARGUMENT, () -> x.order(0, 0, 20001, 1, 1));
        due.refuses("order of least above most, full", Due.ARGUMENT, () -> x.order(0, 2, 1, 1, 1));
        due.refuses("order of cents 10001, full", Due.ARGUMENT, () -> x.order(0, 0, 1, 1, 10001));
    }

    // ---- a call that throws changes nothing

    /** A farm with places, cages, boats and orders left to come, so that a wrongly made one would be seen. */
    private static HarvestPlans half() {
        HarvestPlans x = new HarvestPlans(WEEKS);
        for (int i = 0; i < 2; i++) {
            x.place(20 + i);
            x.cage(i);
            x.boat(9 + i);
            x.order(i, 1000, 1100 + 100 * i, 5 + i, 10 + i);
        }
        for (int w = 0; w < WEEKS; w++) {
            x.plant(w, 15 + w);
            x.size(0, w, 1000 + w, 5);
            x.size(1, w, 1200, 7 + w);
        }
        x.closed(1, 2, true);
        x.weather(0, 1, true);
        x.prices(7, 3);
        return x;
    }

    private static List<Refused> wrongArguments() {
        List<Refused> calls = new ArrayList<>();
        calls.add(argument("place(-1)", x -> x.place(-1)));
        calls.add(argument("place of too much", x -> x.place(100000001)));
        calls.add(argument("closed of no place", x -> x.closed(4, 0, true)));
        calls.add(argument("closed of place -1", x -> x.closed(-1, 0, true)));
        calls.add(argument("closed in week 3", x -> x.closed(0, WEEKS, true)));
        calls.add(argument("cage at no place", x -> x.cage(4)));
        calls.add(argument("cage at place -1", x -> x.cage(-1)));
        calls.add(argument("size of no cage", x -> x.size(6, 0, 1, 1)));
        calls.add(argument("size in week -1", x -> x.size(0, -1, 2000, 2)));
        calls.add(argument("size of wrong grams", x -> x.size(0, 0, 20001, 2)));
        calls.add(argument("size of wrong fish", x -> x.size(0, 0, 2000, 100001)));
        calls.add(argument("boat(-1)", x -> x.boat(-1)));
        calls.add(argument("weather of no boat", x -> x.weather(3, 0, true)));
        calls.add(argument("weather in week 3", x -> x.weather(0, WEEKS, true)));
        calls.add(argument("plant in week -1", x -> x.plant(-1, 5)));
        calls.add(argument("plant of -1", x -> x.plant(0, -1)));
        calls.add(argument("order in week 3", x -> x.order(WEEKS, 0, 20000, 9, 9999)));
        calls.add(argument("order of least above most", x -> x.order(0, 1001, 1000, 9, 9999)));
        calls.add(argument("order of wrong kilos", x -> x.order(0, 0, 20000, -1, 9999)));
        calls.add(argument("order of wrong cents", x -> x.order(0, 0, 20000, 9, 10001)));
        calls.add(argument("prices of wrong spot", x -> x.prices(10001, 4)));
        calls.add(argument("prices of wrong keep", x -> x.prices(4, -1)));
        calls.add(argument("run(0)", x -> x.run(0)));
        calls.add(argument("run(5001)", x -> x.run(5001)));
        calls.add(argument("move of no cage", x -> x.move(6, 0)));
        calls.add(argument("move of cage -1", x -> x.move(-1, 0)));
        calls.add(argument("move to week 3", x -> x.move(0, WEEKS)));
        calls.add(argument("move to week -2", x -> x.move(0, -2)));
        calls.add(argument("taken of no cage", x -> x.taken(6)));
        calls.add(argument("sold of no order", x -> x.sold(6)));
        return calls;
    }

    private static List<Refused> onlyIfFull() {
        return List.of(
                new Refused("a fifth place", Due.STATE, x -> x.place(5)),
                new Refused("a seventh cage", Due.STATE, x -> x.cage(0)),
                new Refused("a fourth boat", Due.STATE, x -> x.boat(5)),
                new Refused("a seventh order", Due.STATE, x -> x.order(0, 0, 20000, 9, 9999)));
    }

    private static List<Refused> onlyWithoutAPlan() {
        return List.of(
                new Refused("check of no plan", Due.STATE, x -> x.check()),
                new Refused("worth of no plan", Due.STATE, x -> x.worth()),
                new Refused("sold by no plan", Due.STATE, x -> x.sold(0)));
    }

    private static Refused argument(String what, Change call) {
        return new Refused(what, Due.ARGUMENT, call);
    }

    private static void nothingIsChanged() {
        due.of("a call that throws changes nothing");
        for (int planBy = 0; planBy < 3; planBy++) {
            for (int full = 0; full < 2; full++) {
                List<Refused> calls = wrongArguments();
                if (full == 1) {
                    calls.addAll(onlyIfFull());
                }
                if (planBy == 0) {
                    calls.addAll(onlyWithoutAPlan());
                }
                for (Refused refused : calls) {
                    changesNothing(refused, started(full == 1, planBy), started(full == 1, planBy));
                }
            }
        }
    }

    /** Without a plan, with one by hand, with one by a run (that leaves nodes, too). */
    private static HarvestPlans started(boolean full, int planBy) {
        HarvestPlans x = full ? Farms.full(WEEKS) : half();
        if (planBy == 1) {
            x.move(0, 2);
            x.move(1, 0);
        }
        if (planBy == 2) {
            x.run(5000);
        }
        return x;
    }

    private static void changesNothing(Refused refused, HarvestPlans x, HarvestPlans twin) {
        due.refuses(refused.what, refused.thrown, () -> refused.call.on(x));
        List<String> got = answers(x);
        List<String> want = answers(twin);
        due.is(refused.what + " leaves " + got + " of " + want, true, got.equals(want));
    }

    private static String answer(Call call, HarvestPlans x) {
        try {
            return Long.toString(call.on(x));
        } catch (IllegalArgumentException | IllegalStateException e) {
            return e.getClass().getSimpleName();
        }
    }

    /** All that can be asked of an object; what there is comes last, as asking for it leaves no plan. */
    private static List<String> answers(HarvestPlans x) {
        List<String> all = new ArrayList<>();
        addPlan(all, x);
        for (int c = 0; c < 6; c++) {
            int cage = c;
            for (int w = NONE; w < WEEKS; w++) {
                int week = w;
                all.add(answer(y -> y.move(cage, week), x));
                all.add(answer(y -> y.worth(), x));
                all.add(answer(y -> y.check(), x));
            }
        }
        all.add(answer(y -> y.run(5000), x));
        addPlan(all, x);
        addWhatThereIs(all, x);
        return all;
    }

    private static void addPlan(List<String> all, HarvestPlans x) {
        all.add(answer(y -> y.nodes(), x));
        all.add(answer(y -> y.hope(), x));
        all.add(answer(y -> y.check(), x));
        all.add(answer(y -> y.worth(), x));
        for (int i = 0; i < 6; i++) {
            int number = i;
            all.add(answer(y -> y.taken(number), x));
            all.add(answer(y -> y.sold(number), x));
        }
    }

    private static void addWhatThereIs(List<String> all, HarvestPlans x) {
        for (int w = 0; w < WEEKS; w++) {
            int week = w;
            all.add(answer(y -> y.plant(week, 0), x));
            for (int i = 0; i < 4; i++) {
                int number = i;
                all.add(answer(y -> y.closed(number, week, false) ? 1 : 0, x));
                all.add(answer(y -> y.weather(number, week, false) ? 1 : 0, x));
            }
        }
        all.add(answer(y -> y.place(0), x));
        all.add(answer(y -> y.cage(0), x));
        all.add(answer(y -> y.boat(0), x));
        all.add(answer(y -> y.order(0, 0, 0, 0, 0), x));
    }

    // ---- each such call that is not refused leaves no plan at hand

    private static final String[] CHANGES = {"place", "closed", "closed as it was", "cage", "size", "size as it was",
        "boat", "weather", "weather as it was", "plant", "plant as it was", "order", "prices", "prices as they were"};

    private static void change(int i, HarvestPlans x) {
        switch (i) {
            case 0 -> x.place(0);
            case 1 -> x.closed(0, 0, true);
            case 2 -> x.closed(0, 0, false);
            case 3 -> x.cage(0);
            case 4 -> x.size(1, 2, 5, 5);
            case 5 -> x.size(0, 0, 1000, 5);
            case 6 -> x.boat(0);
            case 7 -> x.weather(1, 1, true);
            case 8 -> x.weather(0, 1, true);
            case 9 -> x.plant(0, 1);
            case 10 -> x.plant(0, 15);
            case 11 -> x.order(2, 0, 0, 0, 0);
            case 12 -> x.prices(1, 1);
            default -> x.prices(7, 3);
        }
    }

    private static void leavesNoPlan(String what, HarvestPlans x) {
        due.refuses(what + ": check", Due.STATE, () -> x.check());
        due.refuses(what + ": worth", Due.STATE, () -> x.worth());
        due.refuses(what + ": sold", Due.STATE, () -> x.sold(0));
        due.is(what + ": taken", NONE, x.taken(0));
        due.is(what + ": taken", NONE, x.taken(1));
        due.is(what + ": a move makes one from none", NONE, x.move(1, 1));
        due.is(what + ": of that cage alone", NONE, x.taken(0));
    }

    private static void changesLeaveNoPlan() {
        due.of("each such call that is not refused leaves no plan at hand");
        for (int i = 0; i < CHANGES.length; i++) {
            HarvestPlans x = half();
            x.move(0, 2);
            x.move(1, 0);
            change(i, x);
            leavesNoPlan(CHANGES[i], x);
        }
    }

    private static void changesLeaveNoPlanOfARun() {
        due.of("each such call that is not refused leaves no plan at hand: of a run neither");
        for (int i = 0; i < CHANGES.length; i++) {
            HarvestPlans x = half();
            due.is("run", 0, x.run(5000));
            due.is("a cage is taken", true, x.taken(0) != NONE && x.taken(1) != NONE);
            int nodes = x.nodes();
            change(i, x);
            leavesNoPlan(CHANGES[i], x);
            due.is(CHANGES[i] + ": the latest run made its nodes", nodes, x.nodes());
        }
    }
}
