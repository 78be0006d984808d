import java.util.ArrayList;
import java.util.Comparator;
import java.util.List;

/**
 * The document a second time, as plainly as its words go and with none of the class's ways: every rule is looked at
 * anew for every week at every node, hopes are summed from the start, boats are handed out one by one.
 */
final class PlainModel {
    record Order(int number, int week, int least, int most, int kilos, int cents) {
        boolean fits(int grams) {
            return least <= grams && grams <= most;
        }
    }

    private final int weeks;
    private final List<Integer> mosts = new ArrayList<>();
    private final List<boolean[]> closed = new ArrayList<>();
    private final List<Integer> homes = new ArrayList<>();
    private final List<int[]> grams = new ArrayList<>();
    private final List<int[]> fish = new ArrayList<>();
    private final List<Integer> loads = new ArrayList<>();
    private final List<boolean[]> barred = new ArrayList<>();
    private final int[] plants;
    private final List<Order> orders = new ArrayList<>();
    private int spot;
    private int keep;
    private List<Integer> plan;
    private int made;

    private int told;
    private boolean spent;
    private List<Integer> best;

    PlainModel(int weeks) {
        this.weeks = weeks < 1 ? 1 : weeks > 8 ? 8 : weeks;
        plants = new int[this.weeks];
    }

    private static void argument(boolean good) {
        if (!good) {
            throw new IllegalArgumentException();
        }
    }

    private static void state(boolean good) {
        if (!good) {
            throw new IllegalStateException();
        }
    }

    private static boolean in(int number, int least, int most) {
        return least <= number && number <= most;
    }

    private boolean isWeek(int week) {
        return in(week, 0, weeks - 1);
    }

    private static boolean has(List<?> list, int number) {
        return in(number, 0, list.size() - 1);
    }

    int place(int most) {
        argument(in(most, 0, 100000000));
        state(mosts.size() != 4);
        plan = null;
        mosts.add(most);
        closed.add(new boolean[weeks]);
        return mosts.size() - 1;
    }

    boolean closed(int place, int week, boolean is) {
        argument(has(mosts, place) && isWeek(week));
        plan = null;
        boolean was = closed.get(place)[week];
        closed.get(place)[week] = is;
        return was;
    }

    int cage(int place) {
        argument(has(mosts, place));
        state(homes.size() != 6);
        plan = null;
        homes.add(place);
        grams.add(new int[weeks]);
        fish.add(new int[weeks]);
        return homes.size() - 1;
    }

    int size(int cage, int week, int gram, int number) {
        argument(has(homes, cage) && isWeek(week) && in(gram, 0, 20000) && in(number, 0, 100000));
        plan = null;
        grams.get(cage)[week] = gram;
        fish.get(cage)[week] = number;
        return (int) kilos(cage, week);
    }

    int boat(int load) {
        argument(in(load, 0, 100000000));
        state(loads.size() != 3);
        plan = null;
        loads.add(load);
        barred.add(new boolean[weeks]);
        return loads.size() - 1;
    }

    boolean weather(int boat, int week, boolean is) {
        argument(has(loads, boat) && isWeek(week));
        plan = null;
        boolean was = barred.get(boat)[week];
        barred.get(boat)[week] = is;
        return was;
    }

    int plant(int week, int kilos) {
        argument(isWeek(week) && in(kilos, 0, 100000000));
        plan = null;
        int was = plants[week];
        plants[week] = kilos;
        return was;
    }

    int order(int week, int least, int most, int kilos, int cents) {
        argument(isWeek(week) && in(least, 0, 20000) && in(most, 0, 20000) && least <= most);
        argument(in(kilos, 0, 100000000) && in(cents, 0, 10000));
        state(orders.size() != 6);
        plan = null;
        orders.add(new Order(orders.size(), week, least, most, kilos, cents));
        return orders.size() - 1;
    }

    void prices(int newSpot, int newKeep) {
        argument(in(newSpot, 0, 10000) && in(newKeep, 0, 10000));
        plan = null;
        spot = newSpot;
        keep = newKeep;
    }

    int run(int nodes) {
        argument(in(nodes, 1, 5000));
        told = nodes;
        made = 0;
        spent = false;
        best = null;
        search(new ArrayList<>());
        plan = best;
        return best != null ? (spent ? 1 : 0) : (spent ? 3 : 2);
    }

    int nodes() {
        return made;
    }

    long hope() {
        return hopeOf(List.of());
    }

    int move(int cage, int week) {
        argument(has(homes, cage) && (week == -1 || isWeek(week)));
        plan = new ArrayList<>(plan == null ? filled(List.of()) : plan);
        return plan.set(cage, week);
    }

    int taken(int cage) {
        argument(has(homes, cage));
        return plan == null ? -1 : plan.get(cage);
    }

    int check() {
        state(plan != null);
        for (int week = 0; week < weeks; week++) {
            for (int rule = 1; rule <= 4; rule++) {
                if (!keeps(rule, plan, week)) {
                    return 10 * week + rule;
                }
            }
        }
        return 0;
    }

    long worth() {
        state(plan != null);
        return sell(plan, new long[6]);
    }

    int sold(int order) {
        argument(has(orders, order));
        state(plan != null);
        long[] gets = new long[6];
        sell(plan, gets);
        return (int) gets[order];
    }

    private long kilos(int cage, int week) {
        return (long) grams.get(cage)[week] * fish.get(cage)[week] / 1000;
    }

    private List<Integer> filled(List<Integer> part) {
        List<Integer> all = new ArrayList<>(part);
        while (all.size() < homes.size()) {
            all.add(-1);
        }
        return all;
    }

    private boolean keeps(int rule, List<Integer> weekOf, int week) {
        List<Integer> takenNow = new ArrayList<>();
        for (int c = 0; c < homes.size(); c++) {
            if (weekOf.get(c) == week) {
                takenNow.add(c);
            }
        }
        if (rule == 1) {
            return takenNow.stream().mapToLong(c -> kilos(c, week)).sum() <= plants[week];
        }
        if (rule == 2) {
            long[] missing = takenNow.stream().mapToLong(c -> kilos(c, week)).toArray();
            return canCarry(missing, 0, week);
        }
        if (rule == 3) {
            return takenNow.stream().noneMatch(c -> closed.get(homes.get(c))[week]);
        }
        for (int p = 0; p < mosts.size(); p++) {
            long held = 0;
            for (int c = 0; c < homes.size(); c++) {
                boolean earlier = weekOf.get(c) != -1 && weekOf.get(c) < week;
                held += homes.get(c) == p && !earlier ? kilos(c, week) : 0;
            }
            if (held > mosts.get(p)) {
                return false;
            }
        }
        return true;
    }

    private boolean canCarry(long[] missing, int boat, int week) {
        if (boat == loads.size()) {
            for (long kilos : missing) {
                if (kilos > 0) {
                    return false;
                }
            }
            return true;
        }
        if (canCarry(missing, boat + 1, week)) {
            return true;
        }
        for (int i = 0; i < missing.length && !barred.get(boat)[week]; i++) {
            long[] less = missing.clone();
            less[i] -= loads.get(boat);
            if (canCarry(less, boat + 1, week)) {
                return true;
            }
        }
        return false;
    }

    private long sell(List<Integer> weekOf, long[] gets) {
        long worth = 0;
        for (int week = 0; week < weeks; week++) {
            long[] have = new long[homes.size()];
            for (int c = 0; c < have.length; c++) {
                have[c] = weekOf.get(c) == week ? kilos(c, week) : 0;
            }
            List<Order> now = new ArrayList<>(orders);
            int today = week;
            now.removeIf(o -> o.week() != today);
            now.sort(Comparator.comparingInt((Order o) -> -o.cents()).thenComparingInt(Order::number));
            for (Order o : now) {
                for (int c = 0; c < have.length; c++) {
                    if (o.fits(grams.get(c)[week])) {
                        long part = Math.min(have[c], o.kilos() - gets[o.number()]);
                        gets[o.number()] += part;
                        have[c] -= part;
                        worth += part * o.cents();
                    }
                }
            }
            for (long rest : have) {
                worth += rest * spot;
            }
        }
        for (int c = 0; c < homes.size(); c++) {
            worth += weekOf.get(c) == -1 ? kilos(c, weeks - 1) * keep : 0;
        }
        return worth;
    }

    private long top(int cage, int week) {
        if (week == -1) {
            return kilos(cage, weeks - 1) * keep;
        }
        long cents = spot;
        for (Order o : orders) {
            if (o.week() == week && o.fits(grams.get(cage)[week]) && o.cents() > cents) {
                cents = o.cents();
            }
        }
        return kilos(cage, week) * cents;
    }

    private long hopeOf(List<Integer> part) {
        long hope = 0;
        for (int c = 0; c < homes.size(); c++) {
            long greatest = 0;
            for (int week = -1; week < weeks; week++) {
                greatest = Math.max(greatest, top(c, week));
            }
            hope += c < part.size() ? top(c, part.get(c)) : greatest;
        }
        return hope;
    }

    private void search(List<Integer> part) {
        if (part.size() == homes.size()) {
            for (int week = 0; week < weeks; week++) {
                if (!keeps(4, part, week)) {
                    return;
                }
            }
            if (best == null || sell(part, new long[6]) > sell(best, new long[6])) {
                best = part;
            }
            return;
        }
        for (int turn = 0; turn <= weeks && !spent; turn++) {
            List<Integer> longer = new ArrayList<>(part);
            longer.add(turn == weeks ? -1 : turn);
            if (!isNode(filled(longer))) {
                continue;
            }
            if (made == told) {
                spent = true;
                return;
            }
            made++;
            // Behind the last cage no hope is asked for: a plan is met by its worth alone.
            if (longer.size() == homes.size() || best == null || hopeOf(longer) > sell(best, new long[6])) {
                search(longer);
            }
        }
    }

    private boolean isNode(List<Integer> weekOf) {
        for (int week = 0; week < weeks; week++) {
            for (int rule = 1; rule <= 3; rule++) {
                if (!keeps(rule, weekOf, week)) {
                    return false;
                }
            }
        }
        return true;
    }
}
