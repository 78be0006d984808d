import java.util.Arrays;

/** Which cage of fish is taken in which week: what there is, the best plan by search, and plans by hand. */
public final class HarvestPlans {
    public static final int NONE = -1;

    private static final int MAX_WEEKS = 8;
    private static final int MAX_PLACES = 4;
    private static final int MAX_CAGES = 6;
    private static final int MAX_BOATS = 3;
    private static final int MAX_ORDERS = 6;
    private static final int MAX_KILOS = 100000000;
    private static final int MAX_GRAMS = 20000;
    private static final int MAX_FISH = 100000;
    private static final int MAX_CENTS = 10000;
    private static final int MAX_NODES = 5000;
    private static final int GRAMS_OF_A_KILO = 1000;

    private static final int KEPT = 0;
    private static final int PLANT_RULE = 1;
    private static final int BOATS_RULE = 2;
    private static final int CLOSED_RULE = 3;
    private static final int HELD_RULE = 4;

    private final Farm farm;
    private final Rules rules;
    private final Sales sales;
    private final Search search;
    /** The week of each cage; all NONE without a plan at hand, so that a first move starts from there. */
    private final int[] plan;
    private boolean planAtHand;

    public HarvestPlans(int weeks) {
        Farm newFarm = new Farm(Math.max(1, Math.min(weeks, MAX_WEEKS)));
        Rules newRules = new Rules(newFarm);
        Sales newSales = new Sales(newFarm);
        farm = newFarm;
        rules = newRules;
        sales = newSales;
        search = new Search(newFarm, newRules, newSales);
        plan = new int[MAX_CAGES];
        Arrays.fill(plan, NONE);
        planAtHand = false;
    }

    // ---- what there is

    public int place(int most) throws IllegalArgumentException, IllegalStateException {
        requireWithin(most, 0, MAX_KILOS);
        requireRoom(farm.placeCount, MAX_PLACES);
        forgetPlan();
        return farm.addPlace(new Place(most, farm.weeks));
    }

    public boolean closed(int place, int week, boolean is) throws IllegalArgumentException {
        requireOneOf(place, farm.placeCount);
        requireWeek(week);
        forgetPlan();
        boolean[] closedIn = farm.places[place].closedIn;
        boolean was = closedIn[week];
        closedIn[week] = is;
        return was;
    }

    public int cage(int place) throws IllegalArgumentException, IllegalStateException {
        requireOneOf(place, farm.placeCount);
        requireRoom(farm.cageCount, MAX_CAGES);
        forgetPlan();
        return farm.addCage(new Cage(place, farm.weeks));
    }

    public int size(int cage, int week, int grams, int fish) throws IllegalArgumentException {
        requireOneOf(cage, farm.cageCount);
        requireWeek(week);
        requireWithin(grams, 0, MAX_GRAMS);
        requireWithin(fish, 0, MAX_FISH);
        forgetPlan();
        Cage sized = farm.cages[cage];
        sized.grams[week] = grams;
        // The greatest product, 2,000,000,000, is still an int.
        sized.kilos[week] = grams * fish / GRAMS_OF_A_KILO;
        return sized.kilos[week];
    }

    public int boat(int load) throws IllegalArgumentException, IllegalStateException {
        requireWithin(load, 0, MAX_KILOS);
        requireRoom(farm.boatCount, MAX_BOATS);
        forgetPlan();
        return farm.addBoat(new Boat(load, farm.weeks));
    }

    public boolean weather(int boat, int week, boolean is) throws IllegalArgumentException {
        requireOneOf(boat, farm.boatCount);
        requireWeek(week);
        forgetPlan();
        boolean[] barredIn = farm.boats[boat].barredIn;
        boolean was = barredIn[week];
        barredIn[week] = is;
        return was;
    }

    public int plant(int week, int kilos) throws IllegalArgumentException {
        requireWeek(week);
        requireWithin(kilos, 0, MAX_KILOS);
        forgetPlan();
        int was = farm.plantKilos[week];
        farm.plantKilos[week] = kilos;
        return was;
    }

    public int order(int week, int least, int most, int kilos, int cents)
            throws IllegalArgumentException, IllegalStateException {
        requireWeek(week);
        requireWithin(most, 0, MAX_GRAMS);
        requireWithin(least, 0, most);
        requireWithin(kilos, 0, MAX_KILOS);
        requireWithin(cents, 0, MAX_CENTS);
        requireRoom(farm.orderCount, MAX_ORDERS);
        forgetPlan();
        return farm.addOrder(new Order(week, least, most, kilos, cents));
    }

    public void prices(int spot, int keep) throws IllegalArgumentException {
        requireWithin(spot, 0, MAX_CENTS);
        requireWithin(keep, 0, MAX_CENTS);
        forgetPlan();
        farm.spot = spot;
        farm.keep = keep;
    }

    // ---- plans

    public int run(int nodes) throws IllegalArgumentException {
        requireWithin(nodes, 1, MAX_NODES);
        forgetPlan();
        search.start(nodes);
        if (!search.hasMet()) {
            return search.spent ? 3 : 2;
        }
        System.arraycopy(search.best, 0, plan, 0, MAX_CAGES);
        planAtHand = true;
        return search.spent ? 1 : 0;
    }

    public int nodes() {
        return search.made;
    }

    public long hope() {
        return search.hopeBeforeAny();
    }

    public int move(int cage, int week) throws IllegalArgumentException {
        requireOneOf(cage, farm.cageCount);
        if (week != NONE) {
            requireWeek(week);
        }
        int was = plan[cage];
        plan[cage] = week;
        planAtHand = true;
        return was;
    }

    public int taken(int cage) throws IllegalArgumentException {
        requireOneOf(cage, farm.cageCount);
        return plan[cage];
    }

    public int check() throws IllegalStateException {
        requirePlan();
        for (int week = 0; week < farm.weeks; week++) {
            int broken = rules.leastBroken(plan, week);
            if (broken != KEPT) {
                return 10 * week + broken;
            }
        }
        return 0;
    }

    public long worth() throws IllegalStateException {
        requirePlan();
        return sales.sellAll(plan);
    }

    public int sold(int order) throws IllegalArgumentException, IllegalStateException {
        requireOneOf(order, farm.orderCount);
        requirePlan();
        sales.sellAll(plan);
        return sales.gotten[order];
    }

    // ---- what the calls share

    private void forgetPlan() {
        Arrays.fill(plan, NONE);
        planAtHand = false;
    }

    private void requirePlan() {
        if (!planAtHand) {
            throw new IllegalStateException("there is no plan at hand");
        }
    }

    private void requireWeek(int week) {
        requireOneOf(week, farm.weeks);
    }

    private static void requireOneOf(int number, int count) {
        if (number < 0 || number >= count) {
            throw new IllegalArgumentException("there is no such place, cage, boat, order or week");
        }
    }

    private static void requireWithin(int number, int least, int most) {
        if (number < least || number > most) {
            throw new IllegalArgumentException("a number is out of its bounds");
        }
    }

    private static void requireRoom(int count, int limit) {
        if (count >= limit) {
            throw new IllegalStateException("there are as many as there may be");
        }
    }

    private static final class Place {
        private final int most;
        private final boolean[] closedIn;

        private Place(int most, int weeks) {
            this.most = most;
            this.closedIn = new boolean[weeks];
        }
    }

    private static final class Cage {
        private final int home;
        private final int[] grams;
        private final int[] kilos;

        private Cage(int home, int weeks) {
            this.home = home;
            this.grams = new int[weeks];
            this.kilos = new int[weeks];
        }
    }

    private static final class Boat {
        private final int load;
        private final boolean[] barredIn;

        private Boat(int load, int weeks) {
            this.load = load;
            this.barredIn = new boolean[weeks];
        }
    }

    private static final class Order {
        private final int week;
        private final int least;
        private final int most;
        private final int kilos;
        private final int cents;

        private Order(int week, int least, int most, int kilos, int cents) {
            this.week = week;
            this.least = least;
            this.most = most;
            this.kilos = kilos;
            this.cents = cents;
        }

        /** Whether the order may get of a cage that is taken in that week (never for NONE). */
        private boolean wants(Cage cage, int takenIn) {
            return takenIn == week && cage.grams[week] >= least && cage.grams[week] <= most;
        }
    }

    /** What there is; the entries of each array below its count are never null. */
    private static final class Farm {
        private final int weeks;
        private final Place[] places = new Place[MAX_PLACES];
        private final Cage[] cages = new Cage[MAX_CAGES];
        private final Boat[] boats = new Boat[MAX_BOATS];
        private final Order[] orders = new Order[MAX_ORDERS];
        /** The orders' numbers as they are served: by falling cents, of several the lesser number first. */
        private final int[] served = new int[MAX_ORDERS];
        private final int[] plantKilos;
        private int placeCount;
        private int cageCount;
        private int boatCount;
        private int orderCount;
        private int spot;
        private int keep;

        private Farm(int weeks) {
            this.weeks = weeks;
            this.plantKilos = new int[weeks];
        }

        private int addPlace(Place place) {
            places[placeCount] = place;
            return placeCount++;
        }

        private int addCage(Cage cage) {
            cages[cageCount] = cage;
            return cageCount++;
        }

        private int addBoat(Boat boat) {
            boats[boatCount] = boat;
            return boatCount++;
        }

        private int addOrder(Order order) {
            int rank = orderCount;
            while (rank > 0 && orders[served[rank - 1]].cents < order.cents) {
                served[rank] = served[rank - 1];
                rank--;
            }
            served[rank] = orderCount;
            orders[orderCount] = order;
            return orderCount++;
        }

        private long centsKept(int cage) {
            return (long) cages[cage].kilos[weeks - 1] * keep;
        }

        /** The TOP of a cage in a week, or in none. */
        private long top(int cage, int week) {
            if (week == NONE) {
                return centsKept(cage);
            }
            int cents = spot;
            for (int o = 0; o < orderCount; o++) {
                if (orders[o].wants(cages[cage], week)) {
                    cents = Math.max(cents, orders[o].cents);
                }
            }
            return (long) cages[cage].kilos[week] * cents;
        }

        private long greatestTop(int cage) {
            long greatest = centsKept(cage);
            for (int week = 0; week < weeks; week++) {
                greatest = Math.max(greatest, top(cage, week));
            }
            return greatest;
        }
    }

    /** The four rules that a plan keeps in a week. */
    private static final class Rules {
        private final Farm farm;
        /** Rows made once and used again, as all objects of all calls share one room. */
        private final int[] needs = new int[MAX_CAGES];
        private final int[] loads = new int[MAX_BOATS];
        private final int[] missing = new int[MAX_CAGES];
        private final int[] held = new int[MAX_PLACES];

        private Rules(Farm farm) {
            this.farm = farm;
        }

        private int leastBroken(int[] plan, int week) {
            if (!keepsPlant(plan, week)) {
                return PLANT_RULE;
            }
            if (!keepsBoats(plan, week)) {
                return BOATS_RULE;
            }
            if (!keepsClosed(plan, week)) {
                return CLOSED_RULE;
            }
            return keepsHeld(plan, week) ? KEPT : HELD_RULE;
        }

        /** The rules 1, 2 and 3, the cheapest first: only HELD looks at cages that are not taken in the week. */
        private boolean allowsTaking(int[] plan, int week) {
            return keepsClosed(plan, week) && keepsPlant(plan, week) && keepsBoats(plan, week);
        }

        private boolean keepsPlant(int[] plan, int week) {
            int kilos = 0;
            for (int c = 0; c < farm.cageCount; c++) {
                if (plan[c] == week) {
                    kilos += farm.cages[c].kilos[week];
                }
            }
            return kilos <= farm.plantKilos[week];
        }

        private boolean keepsClosed(int[] plan, int week) {
            for (int c = 0; c < farm.cageCount; c++) {
                if (plan[c] == week && farm.places[farm.cages[c].home].closedIn[week]) {
                    return false;
                }
            }
            return true;
        }

        private boolean keepsHeld(int[] plan, int week) {
            Arrays.fill(held, 0);
            for (int c = 0; c < farm.cageCount; c++) {
                if (plan[c] == NONE || plan[c] >= week) {
                    held[farm.cages[c].home] += farm.cages[c].kilos[week];
                }
            }
            for (int p = 0; p < farm.placeCount; p++) {
                if (held[p] > farm.places[p].most) {
                    return false;
                }
            }
            return true;
        }

        private boolean keepsAllHeld(int[] plan) {
            for (int week = 0; week < farm.weeks; week++) {
                if (!keepsHeld(plan, week)) {
                    return false;
                }
            }
            return true;
        }

        private boolean keepsBoats(int[] plan, int week) {
            int needy = gatherNeeds(plan, week);
            if (needy == 0) {
                return true;
            }
            int afloat = gatherLoads(week);
            if (needy > afloat) {
                return false;
            }
            int ways = 1;
            for (int b = 0; b < afloat; b++) {
                ways *= needy;
            }
            for (int way = 0; way < ways; way++) {
                if (carriesAll(way, needy, afloat)) {
                    return true;
                }
            }
            return false;
        }

        private int gatherNeeds(int[] plan, int week) {
            int needy = 0;
            for (int c = 0; c < farm.cageCount; c++) {
                if (plan[c] == week && farm.cages[c].kilos[week] > 0) {
                    needs[needy] = farm.cages[c].kilos[week];
                    needy++;
                }
            }
            return needy;
        }

        private int gatherLoads(int week) {
            int afloat = 0;
            for (int b = 0; b < farm.boatCount; b++) {
                if (!farm.boats[b].barredIn[week]) {
                    loads[afloat] = farm.boats[b].load;
                    afloat++;
                }
            }
            return afloat;
        }

        /** A way is a number whose digits, to the base of the needy cages (1 or more), tell each boat's cage. */
        private boolean carriesAll(int way, int needy, int afloat) {
            System.arraycopy(needs, 0, missing, 0, needy);
            int digits = way;
            for (int b = 0; b < afloat; b++) {
                missing[digits % needy] -= loads[b];
                digits /= needy;
            }
            for (int n = 0; n < needy; n++) {
                if (missing[n] > 0) {
                    return false;
                }
            }
            return true;
        }
    }

    /** Who gets what of the cages that a plan takes, and for how much. */
    private static final class Sales {
        private final Farm farm;
        private final int[] left = new int[MAX_CAGES];
        private final int[] gotten = new int[MAX_ORDERS];

        private Sales(Farm farm) {
            this.farm = farm;
        }

        /** THE WORTH of a plan; what each order gets stands in gotten then. */
        private long sellAll(int[] plan) {
            for (int c = 0; c < farm.cageCount; c++) {
                left[c] = plan[c] == NONE ? 0 : farm.cages[c].kilos[plan[c]];
            }
            // Orders of different weeks share no cage, so one turn through all of them is as good as week by week.
            long cents = 0;
            for (int rank = 0; rank < farm.orderCount; rank++) {
                int number = farm.served[rank];
                gotten[number] = serve(farm.orders[number], plan);
                cents += (long) gotten[number] * farm.orders[number].cents;
            }
            return cents + priceOfRest(plan);
        }

        private int serve(Order order, int[] plan) {
            int got = 0;
            for (int c = 0; c < farm.cageCount; c++) {
                if (order.wants(farm.cages[c], plan[c])) {
                    int part = Math.min(left[c], order.kilos - got);
                    left[c] -= part;
                    got += part;
                }
            }
            return got;
        }

        private long priceOfRest(int[] plan) {
            long cents = 0;
            for (int c = 0; c < farm.cageCount; c++) {
                cents += plan[c] == NONE ? farm.centsKept(c) : (long) left[c] * farm.spot;
            }
            return cents;
        }
    }

    /** THE SEARCH: branching cage by cage, bounded by THE HOPE. */
    private static final class Search {
        /** Below each worth and each hope, as none of them is below 0. */
        private static final long NONE_MET = -1;

        private final Farm farm;
        private final Rules rules;
        private final Sales sales;
        private final int[] trial = new int[MAX_CAGES];
        private final int[] best = new int[MAX_CAGES];
        /** Of each cage and those behind it, the greatest tops together. */
        private final long[] hopeFrom = new long[MAX_CAGES + 1];
        private long bestWorth = NONE_MET;
        private int limit;
        private int made;
        private boolean spent;

        private Search(Farm farm, Rules rules, Sales sales) {
            this.farm = farm;
            this.rules = rules;
            this.sales = sales;
        }

        private void start(int nodeLimit) {
            limit = nodeLimit;
            made = 0;
            spent = false;
            bestWorth = NONE_MET;
            Arrays.fill(trial, NONE);
            foretell();
            branch(0, 0);
        }

        private boolean hasMet() {
            return bestWorth != NONE_MET;
        }

        private long hopeBeforeAny() {
            foretell();
            return hopeFrom[0];
        }

        private void foretell() {
            hopeFrom[farm.cageCount] = 0;
            for (int c = farm.cageCount - 1; c >= 0; c--) {
                hopeFrom[c] = hopeFrom[c + 1] + farm.greatestTop(c);
            }
        }

        /** Goes through the weeks of a cage, then none; the cages' number keeps the depth at 6 and below. */
        private void branch(int cage, long topsBefore) {
            if (cage >= farm.cageCount) {
                meet();
                return;
            }
            for (int week = 0; week < farm.weeks && !spent; week++) {
                trial[cage] = week;
                if (rules.allowsTaking(trial, week)) {
                    makeNode(cage, topsBefore);
                }
            }
            // Behind the weeks the cage is as if not taken again, which cages before it rely on.
            trial[cage] = NONE;
            if (!spent) {
                makeNode(cage, topsBefore);
            }
        }

        private void makeNode(int cage, long topsBefore) {
            if (made >= limit) {
                spent = true;
                return;
            }
            made++;
            long tops = topsBefore + farm.top(cage, trial[cage]);
            if (tops + hopeFrom[cage + 1] > bestWorth) {
                branch(cage + 1, tops);
            }
        }

        /** The nodes kept the rules 1, 2 and 3 already; HELD is known only now. */
        private void meet() {
            if (!rules.keepsAllHeld(trial)) {
                return;
            }
            long worth = sales.sellAll(trial);
            if (worth > bestWorth) {
                bestWorth = worth;
                System.arraycopy(trial, 0, best, 0, MAX_CAGES);
            }
        }
    }
}
