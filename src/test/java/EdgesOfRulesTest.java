/** The boundary cases of the four rules and of THE WORTH, each under the document's words. */
public final class EdgesOfRulesTest {
    private static final int NONE = Farms.NONE;

    private static Due due;

    public static void main(String[] args) {
        due = new Due("EdgesOfRulesTest");
        plantJustEnough();
        plantOfThatWeek();
        plantOfTheGreatest();
        boatsJustEnough();
        boatsTogether();
        boatsGivenOnce();
        boatsGivenCleverly();
        boatsForNoKilos();
        boatsBarred();
        boatsEachWeekAnew();
        boatsFewerThanCages();
        boatsByTheKilosOfTheWeek();
        boatsAfterABrokenPlan();
        boatsOfTheGreatest();
        closedThen();
        closedForNoKilos();
        heldJustEnough();
        heldUntilTaken();
        heldByPlace();
        heldByWeek();
        heldOfTheGreatest();
        ordersOfTheWeek();
        ordersByCents();
        ordersOfOneCents();
        ordersByBounds();
        ordersCageByCage();
        ordersUpToKilos();
        ordersBelowSpot();
        spotForTheRest();
        keepOfTheLastWeek();
        worthOfTheGreatest();
        due.end();
    }

    /** All cages are taken in one week. */
    private static int checkAllIn(HarvestPlans x, int cages, int week) {
        for (int c = 0; c < cages; c++) {
            x.move(c, week);
        }
        return x.check();
    }

    // ---- 1 PLANT

    private static void plantJustEnough() {
        due.of("the KILOS (of that week) of all cages taken in it are together not above the plant's");
        HarvestPlans x = Farms.of(Farms.kilos(3), Farms.kilos(4), Farms.kilos(5));
        x.plant(0, 12);
        due.is("just as much", 0, checkAllIn(x, 3, 0));
        x.plant(0, 11);
        due.is("one above", 1, checkAllIn(x, 3, 0));
        x.move(1, NONE);
        due.is("without the middle one", 0, x.check());
        x.plant(0, 0);
        x.move(0, NONE);
        due.is("nothing taken, nothing can be", 0, x.check());
        x.size(0, 0, 1000, 0);
        x.move(0, 0);
        due.is("no kilos taken, nothing can be", 0, x.check());
        x.size(0, 0, 1000, 1);
        x.move(0, 0);
        due.is("one taken, nothing can be", 1, x.check());
    }

    private static void plantOfThatWeek() {
        due.of("the KILOS (of that week)");
        HarvestPlans x = Farms.of(Farms.kilos(9, 2, 9), Farms.kilos(9, 3, 9));
        x.plant(0, 0);
        x.plant(1, 5);
        x.plant(2, 0);
        due.is("those of week 1", 0, checkAllIn(x, 2, 1));
        x.move(1, 0);
        due.is("week 0", 1, x.check());
        x.move(1, 2);
        due.is("week 2", 21, x.check());
        x.plant(2, 9);
        x.move(0, 1);
        x.move(1, 2);
        due.is("each week for itself", 0, x.check());
    }

    private static void plantOfTheGreatest() {
        due.of("are together not above the plant's: of the greatest cages");
        HarvestPlans x = Farms.greatest(Farms.MOST_KILOS, 6 * Farms.GREATEST_CAGE);
        due.is("just as much, but no boats", 2, checkAllIn(x, 6, 0));
        x.plant(0, 6 * Farms.GREATEST_CAGE - 1);
        due.is("one above", 1, checkAllIn(x, 6, 0));
    }

    // ---- 2 BOATS

    private static void boatsJustEnough() {
        due.of("has boats whose LOADS together are not below its KILOS");
        HarvestPlans x = Farms.withoutBoats(Farms.kilos(5));
        x.move(0, 0);
        due.is("no boats", 2, x.check());
        x.boat(4);
        x.move(0, 0);
        due.is("one below", 2, x.check());
        x.size(0, 0, 1000, 4);
        x.move(0, 0);
        due.is("just as much", 0, x.check());
        x.size(0, 0, 1000, 3);
        x.move(0, 0);
        due.is("one above", 0, x.check());
    }

    private static void boatsTogether() {
        due.of("boats whose LOADS together");
        HarvestPlans x = Farms.withoutBoats(Farms.kilos(9));
        x.boat(4);
        x.boat(3);
        x.move(0, 0);
        due.is("two boats are not enough", 2, x.check());
        x.boat(2);
        x.move(0, 0);
        due.is("three boats are just enough", 0, x.check());
        x.size(0, 0, 1000, 10);
        x.move(0, 0);
        due.is("three boats are one below", 2, x.check());
    }

    private static void boatsGivenOnce() {
        due.of("each boat that is not barred can be given to one cage taken in that week");
        HarvestPlans x = Farms.withoutBoats(Farms.kilos(2), Farms.kilos(2));
        x.boat(100);
        due.is("one boat, two cages", 2, checkAllIn(x, 2, 0));
        x.boat(1);
        due.is("the other boat is too small", 2, checkAllIn(x, 2, 0));
        x.boat(1);
        due.is("two boats for one cage, the great one for the other", 0, checkAllIn(x, 2, 0));
        x.size(0, 0, 1000, 3);
        due.is("for either cage", 0, checkAllIn(x, 2, 0));
        x.size(1, 0, 1000, 3);
        due.is("but not for both", 2, checkAllIn(x, 2, 0));
    }

    /** Neither the greatest boat first nor the greatest cage first nor the boats by their numbers would do. */
    private static void boatsGivenCleverly() {
        due.of("can be given");
        int[][] loads = {{5, 4, 3}, {3, 4, 5}, {4, 5, 3}, {5, 4, 3}, {3, 5, 4}, {6, 5, 5}, {2, 2, 9}, {7, 1, 1}};
        int[][] needs = {{7, 5}, {5, 7}, {8, 4}, {3, 9}, {4, 4, 4}, {10, 6}, {9, 4}, {1, 8}};
        int[] want = {0, 0, 0, 0, 2, 0, 0, 0};
        for (int i = 0; i < loads.length; i++) {
            HarvestPlans x = new HarvestPlans(1);
            x.place(100);
            x.plant(0, 100);
            for (int c = 0; c < needs[i].length; c++) {
                x.cage(0);
                x.size(c, 0, 1000, needs[i][c]);
            }
            for (int load : loads[i]) {
                x.boat(load);
            }
            due.is("row " + i, want[i], checkAllIn(x, needs[i].length, 0));
        }
    }

    private static void boatsForNoKilos() {
        due.of("each such cage whose KILOS are above 0 has boats");
        HarvestPlans x = Farms.withoutBoats(Farms.kilos(0), Farms.kilos(0), Farms.kilos(0), Farms.kilos(0),
                Farms.kilos(1));
        due.is("no kilos, no boats", 0, checkAllIn(x, 4, 0));
        due.is("one kilo, no boats", 2, checkAllIn(x, 5, 0));
        x.boat(1);
        due.is("one boat for the one of a kilo", 0, checkAllIn(x, 5, 0));
        x.size(0, 0, 999, 1);
        due.is("a fish, but no kilo", 0, checkAllIn(x, 5, 0));
        x.size(0, 0, 1000, 1);
        due.is("a kilo more", 2, checkAllIn(x, 5, 0));
    }

    private static void boatsBarred() {
        due.of("each boat that is not barred");
        HarvestPlans x = Farms.withoutBoats(Farms.kilos(6, 6));
        x.boat(1);
        x.boat(2);
        x.boat(3);
        due.is("all", 0, checkAllIn(x, 1, 0));
        for (int b = 0; b < 3; b++) {
            x.weather(b, 0, true);
            due.is("boat " + b + " barred", 2, checkAllIn(x, 1, 0));
            due.is("in that week alone", 0, checkAllIn(x, 1, 1));
            x.weather(b, 0, false);
            due.is("and no more", 0, checkAllIn(x, 1, 0));
        }
        for (int b = 0; b < 3; b++) {
            x.weather(b, 0, true);
        }
        due.is("all barred", 2, checkAllIn(x, 1, 0));
        due.is("all barred, none taken", 0, checkAllIn(x, 1, NONE));
    }

    private static void boatsEachWeekAnew() {
        due.of("taken in that week");
        HarvestPlans x = Farms.withoutBoats(Farms.kilos(5, 5, 5), Farms.kilos(5, 5, 5), Farms.kilos(5, 5, 5));
        x.boat(5);
        for (int c = 0; c < 3; c++) {
            x.move(c, c);
        }
        due.is("one boat, a cage each week", 0, x.check());
        x.move(2, 1);
        due.is("two in week 1", 12, x.check());
    }

    private static void boatsFewerThanCages() {
        due.of("given to one cage: three boats, so three cages at most");
        HarvestPlans x = Farms.of(Farms.kilos(1), Farms.kilos(1), Farms.kilos(1), Farms.kilos(1), Farms.kilos(1),
                Farms.kilos(1));
        for (int cages = 1; cages <= 6; cages++) {
            due.is(cages + " cages", cages <= 3 ? 0 : 2, checkAllIn(x, cages, 0));
        }
    }

    private static void boatsByTheKilosOfTheWeek() {
        due.of("LOADS together are not below its KILOS: those of that week");
        HarvestPlans x = Farms.withoutBoats(Farms.kilos(4, 5, 6));
        x.boat(5);
        int[] want = {0, 0, 22};
        for (int w = 0; w < 3; w++) {
            x.move(0, w);
            due.is("in week " + w, want[w], x.check());
        }
    }

    private static void boatsAfterABrokenPlan() {
        due.of("can be given: whatever could not be given for a plan before");
        HarvestPlans x = Farms.withoutBoats(Farms.kilos(3), Farms.kilos(9), Farms.kilos(9));
        for (int b = 0; b < 3; b++) {
            x.boat(1);
        }
        due.is("too little for three cages", 2, checkAllIn(x, 3, 0));
        x.move(1, NONE);
        due.is("too little for two cages", 2, x.check());
        x.move(2, NONE);
        due.is("enough for one cage", 0, x.check());
    }

    private static void boatsOfTheGreatest() {
        due.of("LOADS together are not below its KILOS: of the greatest boats and cages");
        HarvestPlans x = Farms.greatest(Farms.MOST_KILOS, Farms.MOST_KILOS);
        x.boat(Farms.GREATEST_CAGE - 1);
        x.move(0, 0);
        due.is("one below", 2, x.check());
        x.boat(Farms.MOST_KILOS);
        x.boat(Farms.MOST_KILOS);
        due.is("two great boats, two cages", 0, checkAllIn(x, 2, 0));
        due.is("the third boat is one below", 2, checkAllIn(x, 3, 0));
    }

    // ---- 3 CLOSED

    private static void closedThen() {
        due.of("no cage is taken in it whose place is closed then");
        HarvestPlans x = Farms.of(Farms.kilos(1, 1, 1));
        x.place(10);
        x.cage(1);
        x.size(1, 1, 1000, 1);
        x.closed(0, 1, true);
        int[] wanted = {0, 13, 0};
        for (int w = 0; w < 3; w++) {
            x.move(0, w);
            due.is("in week " + w, wanted[w], x.check());
        }
        x.move(0, NONE);
        due.is("closed, but not taken", 0, x.check());
        x.move(1, 1);
        due.is("another place", 0, x.check());
        x.closed(0, 1, false);
        x.move(0, 1);
        due.is("open again", 0, x.check());
    }

    private static void closedForNoKilos() {
        due.of("no cage is taken in it: one of no KILOS neither");
        HarvestPlans x = new HarvestPlans(1);
        x.place(0);
        x.cage(0);
        x.closed(0, 0, true);
        x.move(0, 0);
        due.is("closed", 3, x.check());
        x.closed(0, 0, false);
        x.move(0, 0);
        due.is("open", 0, x.check());
    }

    // ---- 4 HELD

    private static HarvestPlans twoAtAPlace(int most, int weeks) {
        HarvestPlans x = new HarvestPlans(weeks);
        x.place(most);
        x.cage(0);
        x.cage(0);
        for (int b = 0; b < 3; b++) {
            x.boat(1000);
        }
        for (int w = 0; w < weeks; w++) {
            x.plant(w, 1000);
        }
        return x;
    }

    private static void heldJustEnough() {
        due.of("together above its MOST");
        HarvestPlans x = twoAtAPlace(10, 1);
        x.size(0, 0, 1000, 4);
        x.size(1, 0, 1000, 6);
        x.move(0, NONE);
        due.is("just as much", 0, x.check());
        x.size(1, 0, 1000, 7);
        x.move(0, NONE);
        due.is("one above", 4, x.check());
        HarvestPlans none = twoAtAPlace(0, 1);
        none.move(0, NONE);
        due.is("nothing at a place for nothing", 0, none.check());
        none.size(1, 0, 1000, 1);
        none.move(0, NONE);
        due.is("one at a place for nothing", 4, none.check());
    }

    private static void heldUntilTaken() {
        due.of("all cages of it that are not taken in an earlier week");
        HarvestPlans x = twoAtAPlace(10, 4);
        x.size(0, 2, 1000, 5);
        x.size(1, 2, 1000, 6);
        int[] weeks = {NONE, 0, 1, 2, 3};
        int[] want = {24, 0, 0, 24, 24};
        for (int i = 0; i < weeks.length; i++) {
            x.move(0, weeks[i]);
            due.is("cage 0 taken in " + weeks[i], want[i], x.check());
        }
        x.move(0, NONE);
        for (int i = 0; i < weeks.length; i++) {
            x.move(1, weeks[i]);
            due.is("cage 1 taken in " + weeks[i], want[i], x.check());
        }
        x.size(1, 2, 1000, 11);
        x.move(0, 0);
        due.is("the other one is too much alone", 24, x.check());
    }

    private static void heldByPlace() {
        due.of("at no place");
        for (int p = 0; p < 4; p++) {
            HarvestPlans x = new HarvestPlans(1);
            for (int q = 0; q < 4; q++) {
                x.place(10);
                x.cage(q);
                x.size(q, 0, 1000, 10);
            }
            x.move(0, NONE);
            due.is("each just full", 0, x.check());
            x.cage(p);
            x.size(4, 0, 1000, 1);
            x.move(0, NONE);
            due.is("place " + p + " too full", 4, x.check());
        }
    }

    private static void heldByWeek() {
        due.of("the KILOS of that week");
        for (int w = 0; w < 8; w++) {
            HarvestPlans x = twoAtAPlace(10, 8);
            x.size(0, w, 1000, 11);
            x.move(0, NONE);
            due.is("too much in week " + w + " alone", 10 * w + 4, x.check());
            x.size(0, w, 1000, 10);
            x.move(0, NONE);
            due.is("just as much in week " + w, 0, x.check());
        }
    }

    private static void heldOfTheGreatest() {
        due.of("together above its MOST: of the greatest cages");
        HarvestPlans just = Farms.greatest(6 * Farms.GREATEST_CAGE, 0);
        just.move(0, NONE);
        due.is("just as much", 0, just.check());
        HarvestPlans less = Farms.greatest(6 * Farms.GREATEST_CAGE - 1, 0);
        less.move(0, NONE);
        due.is("one above", 4, less.check());
    }

    // ---- THE WORTH

    private static void ordersOfTheWeek() {
        due.of("week by week, each order of it");
        HarvestPlans x = Farms.withoutBoats(Farms.kilos(5, 6, 7), Farms.kilos(1, 1, 1));
        x.order(1, 0, 20000, 100, 10);
        int[] weeks = {0, 1, 2, NONE};
        int[] got = {0, 6, 0, 0};
        for (int i = 0; i < weeks.length; i++) {
            x.move(0, weeks[i]);
            due.is("sold, taken in " + weeks[i], got[i], x.sold(0));
            due.is("worth, taken in " + weeks[i], 10L * got[i], x.worth());
        }
    }

    private static void ordersByCents() {
        due.of("from the greatest CENTS on");
        int[][] cents = {{1, 2, 3}, {1, 3, 2}, {2, 1, 3}, {2, 3, 1}, {3, 1, 2}, {3, 2, 1}};
        for (int[] row : cents) {
            HarvestPlans x = Farms.withoutBoats(Farms.kilos(10));
            for (int c : row) {
                x.order(0, 0, 20000, 6, c);
            }
            x.move(0, 0);
            for (int o = 0; o < 3; o++) {
                due.is("order of cents " + row[o], row[o] == 3 ? 6 : row[o] == 2 ? 4 : 0, x.sold(o));
            }
            due.is("worth", 18 + 8, x.worth());
        }
    }

    private static void ordersOfOneCents() {
        due.of("of several the lesser one first");
        HarvestPlans x = Farms.withoutBoats(Farms.kilos(10));
        x.order(0, 0, 20000, 1, 1);
        for (int o = 1; o < 5; o++) {
            x.order(0, 0, 20000, 3, 7);
        }
        x.order(0, 0, 20000, 1, 8);
        x.move(0, 0);
        int[] want = {0, 3, 3, 3, 0, 1};
        for (int o = 0; o < 6; o++) {
            due.is("order " + o, want[o], x.sold(o));
        }
    }

    private static void ordersByBounds() {
        due.of("of the cages taken then whose GRAMS are in its bounds");
        int[][] bounds = {{1000, 1000}, {0, 1000}, {1000, 20000}, {999, 1001}, {0, 999}, {1001, 20000}, {0, 20000}};
        int[] want = {10, 10, 10, 10, 0, 0, 10};
        for (int i = 0; i < bounds.length; i++) {
            HarvestPlans x = Farms.withoutBoats(Farms.kilos(10));
            x.order(0, bounds[i][0], bounds[i][1], 10, 1);
            x.move(0, 0);
            due.is(bounds[i][0] + " .. " + bounds[i][1], want[i], x.sold(0));
        }
        HarvestPlans great = Farms.greatest(0, 0);
        great.order(0, 20000, 20000, 7, 1);
        great.order(0, 0, 19999, 7, 1);
        great.move(0, 0);
        due.is("the greatest grams", 7, great.sold(0));
        due.is("the greatest grams are out of it", 0, great.sold(1));
        HarvestPlans week = Farms.withoutBoats(Farms.kilos(10, 10));
        week.size(0, 1, 1001, 10);
        week.order(1, 0, 1000, 10, 1);
        week.move(0, 1);
        due.is("the grams of the week in which it is taken", 0, week.sold(0));
    }

    private static void ordersCageByCage() {
        due.of("cage by cage by their numbers, what these still have");
        HarvestPlans x = new HarvestPlans(1);
        x.place(0);
        for (int c = 0; c < 3; c++) {
            x.cage(0);
            x.size(c, 0, 1000 + c, 10);
            x.order(0, 1000 + c, 1000 + c, 100, 1);
        }
        x.order(0, 1000, 1002, 13, 2);
        for (int c = 0; c < 3; c++) {
            x.move(c, 0);
        }
        // The order of the greatest cents takes all of cage 0 and 3 of cage 1.
        int[] want = {0, 7, 10, 13};
        for (int o = 0; o < 4; o++) {
            due.is("order " + o, want[o], x.sold(o));
        }
        x.move(0, NONE);
        int[] without = {0, 0, 7, 13};
        for (int o = 0; o < 4; o++) {
            due.is("order " + o + " without cage 0", without[o], x.sold(o));
        }
    }

    private static void ordersUpToKilos() {
        due.of("up to its kilograms");
        int[] kilos = {0, 1, 9, 10, 11, Farms.MOST_KILOS};
        int[] want = {0, 1, 9, 10, 10, 10};
        for (int i = 0; i < kilos.length; i++) {
            HarvestPlans x = Farms.withoutBoats(Farms.kilos(4), Farms.kilos(6));
            x.prices(1, 0);
            x.order(0, 0, 20000, kilos[i], 3);
            x.move(0, 0);
            x.move(1, 0);
            due.is("order of " + kilos[i], want[i], x.sold(0));
            due.is("worth with an order of " + kilos[i], 3 * want[i] + 10 - want[i], x.worth());
        }
    }

    private static void ordersBelowSpot() {
        due.of("for its CENTS: also below SPOT, also 0");
        HarvestPlans x = Farms.withoutBoats(Farms.kilos(10));
        x.prices(5, 0);
        x.order(0, 0, 20000, 4, 0);
        x.move(0, 0);
        due.is("for nothing", 4, x.sold(0));
        due.is("worth", 6 * 5, x.worth());
        x.order(0, 0, 20000, 6, 4);
        x.move(0, 0);
        due.is("all gone to orders", 24, x.worth());
    }

    private static void spotForTheRest() {
        due.of("what cages taken still have then goes for SPOT");
        HarvestPlans x = Farms.withoutBoats(Farms.kilos(10, 20), Farms.kilos(10, 20));
        x.prices(3, 0);
        x.order(0, 0, 20000, 10, 4);
        x.move(0, 0);
        due.is("nothing left", 40, x.worth());
        x.move(1, 0);
        due.is("a whole cage left", 40 + 30, x.worth());
        x.move(1, 1);
        due.is("a cage in a week without orders", 40 + 60, x.worth());
        x.move(0, NONE);
        due.is("not taken goes not for SPOT", 60, x.worth());
    }

    private static void keepOfTheLastWeek() {
        due.of("the KILOS of the last week of cages that are not taken count KEEP");
        HarvestPlans x = Farms.withoutBoats(Farms.kilos(1, 20, 300), Farms.kilos(4000, 50000, 60000));
        x.prices(0, 2);
        x.move(0, NONE);
        due.is("none taken", 600 + 120000, x.worth());
        x.move(0, 2);
        due.is("taken in the last week", 120000, x.worth());
        x.move(1, 0);
        due.is("both taken", 0, x.worth());
        HarvestPlans one = Farms.withoutBoats(Farms.kilos(7));
        one.prices(0, 3);
        one.move(0, NONE);
        due.is("the first week is the last one", 21, one.worth());
    }

    private static void worthOfTheGreatest() {
        due.of("THE WORTH of a plan: of the greatest, above what an int holds");
        HarvestPlans x = Farms.greatest(0, 0);
        x.prices(Farms.MOST_CENTS, Farms.MOST_CENTS);
        x.move(0, NONE);
        due.is("all kept", 120000000000L, x.worth());
        due.is("hope", 120000000000L, x.hope());
        for (int c = 0; c < 6; c++) {
            x.move(c, 0);
        }
        due.is("all for SPOT", 120000000000L, x.worth());
        x.prices(0, 0);
        x.order(0, 20000, 20000, Farms.MOST_KILOS, Farms.MOST_CENTS);
        for (int c = 0; c < 6; c++) {
            x.move(c, 0);
        }
        due.is("all for one order", 120000000000L, x.worth());
        due.is("sold", 12000000, x.sold(0));
        due.is("hope of an order", 120000000000L, x.hope());
    }
}
