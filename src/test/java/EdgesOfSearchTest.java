/** The boundary cases of THE SEARCH, THE HOPE and of a search that is SPENT, each under the document's words. */
public final class EdgesOfSearchTest {
    private static final int NONE = Farms.NONE;

    private static Due due;

    public static void main(String[] args) {
        due = new Due("EdgesOfSearchTest");
        cagesByNumbers();
        weeksThenNone();
        nodesWithinThePlant();
        nodesWithinTheBoats();
        nodesWhereOpen();
        nodesWhateverIsHeld();
        nodesAsIfNotTaken();
        goesOnAboveTheBest();
        goesOnWhileNoneIsMet();
        metIfAllIsHeld();
        metIfAbove();
        metAboveNone();
        hopeOfThoseBehind();
        hopeOfNoneBehind();
        topsAndBounds();
        topsAndCents();
        topsAndWeeks();
        topsOfNoKilos();
        topOfNone();
        spentByOneNode();
        spentAndNoneMet();
        spentWithTheLastOneMet();
        spentNotWithoutCages();
        due.end();
    }

    private static void ran(String what, HarvestPlans x, int want, int nodes) {
        due.is(what + ": run", want, x.run(5000));
        due.is(what + ": nodes", nodes, x.nodes());
    }

    // ---- THE SEARCH

    private static void cagesByNumbers() {
        due.of("THE SEARCH goes through the cages by their numbers");
        HarvestPlans x = Farms.withoutBoats(Farms.kilos(1, 1), Farms.kilos(1, 1));
        x.boat(1);
        x.prices(1, 0);
        // 0; 0 1 (met); 0 none; 1 and none without going on.
        ran("two cages, a boat for one", x, 0, 5);
        due.is("cage 0 is the first to be taken", 0, x.taken(0));
        due.is("cage 1 takes what is left", 1, x.taken(1));
    }

    private static void weeksThenNone() {
        due.of("for each through the weeks from 0 on and then none");
        HarvestPlans x = Farms.of(Farms.kilos(1, 2, 3));
        x.prices(1, 4);
        int[] best = {0, 1, 2, NONE};
        for (int limit = 1; limit <= 4; limit++) {
            due.is("run(" + limit + ")", limit < 4 ? 1 : 0, x.run(limit));
            due.is("taken", best[limit - 1], x.taken(0));
        }
        HarvestPlans even = Farms.of(Farms.kilos(2, 2, 2, 2, 2, 2, 2, 2));
        even.prices(1, 1);
        ran("all weeks alike", even, 0, 9);
        due.is("the first week", 0, even.taken(0));
        even.closed(0, 0, true);
        ran("week 0 is closed", even, 0, 8);
        due.is("the second week", 1, even.taken(0));
        for (int w = 1; w < 8; w++) {
            even.closed(0, w, true);
        }
        ran("none alone", even, 0, 1);
        due.is("none", NONE, even.taken(0));
    }

    private static void nodesWithinThePlant() {
        due.of("as far as the plan of the cages so far keeps the rules 1");
        HarvestPlans x = Farms.of(Farms.kilos(5, 5));
        x.plant(0, 5);
        ran("just enough", x, 0, 3);
        x.plant(0, 4);
        ran("one below", x, 0, 2);
        HarvestPlans two = Farms.of(Farms.kilos(3), Farms.kilos(4));
        two.plant(0, 7);
        // 0; 0 0 (met); 0 none; none without going on.
        ran("both just enough", two, 0, 4);
        two.plant(0, 6);
        ran("both one below", two, 0, 3);
        two.plant(0, 0);
        ran("nothing can be taken", two, 0, 2);
        for (int w = 0; w < 3; w++) {
            HarvestPlans week = Farms.of(Farms.kilos(5, 5, 5));
            week.plant(w, 4);
            week.prices(1, 0);
            ran("not in week " + w, week, 0, 3);
            due.is("the first week that is left", w == 0 ? 1 : 0, week.taken(0));
        }
    }

    private static void nodesWithinTheBoats() {
        due.of("as far as the plan of the cages so far keeps the rules 2");
        HarvestPlans x = Farms.withoutBoats(Farms.kilos(5, 5));
        ran("no boats", x, 0, 1);
        x.boat(4);
        ran("one below", x, 0, 1);
        x.boat(1);
        ran("just enough together", x, 0, 3);
        x.weather(1, 0, true);
        ran("barred in week 0", x, 0, 2);
        x.weather(0, 1, true);
        ran("another one barred in week 1", x, 0, 1);
        x.size(0, 1, 999, 1);
        ran("no kilos in week 1 need no boats", x, 0, 2);
        HarvestPlans growing = Farms.withoutBoats(Farms.kilos(4, 5, 6));
        growing.boat(5);
        growing.prices(1, 0);
        ran("by the kilos of each week", growing, 0, 3);
        due.is("the last week in which the boat does", 1, growing.taken(0));
    }

    private static void nodesWhereOpen() {
        due.of("as far as the plan of the cages so far keeps the rules 3 in each week");
        HarvestPlans x = Farms.of(Farms.kilos(5, 5, 0));
        ran("open", x, 0, 4);
        x.closed(0, 0, true);
        ran("week 0 closed", x, 0, 3);
        x.closed(0, 2, true);
        ran("closed for no kilos too", x, 0, 2);
        x.place(5);
        x.closed(1, 1, true);
        ran("another place closed", x, 0, 2);
    }

    private static void nodesWhateverIsHeld() {
        due.of("keeps the rules 1, 2 and 3: not 4");
        HarvestPlans x = new HarvestPlans(2);
        x.place(0);
        x.cage(0);
        x.size(0, 0, 1000, 1);
        x.plant(0, 1);
        x.boat(1);
        ran("too much is held from the first week on", x, 2, 3);
    }

    private static void nodesAsIfNotTaken() {
        due.of("(of cages behind them as if they were not taken)");
        HarvestPlans x = Farms.withoutBoats(Farms.kilos(1, 1), Farms.kilos(1, 1));
        x.boat(1);
        x.prices(1, 0);
        x.order(0, 0, 20000, 0, 10);
        x.order(1, 0, 20000, 0, 10);
        // The orders of no kilos keep all hopes up: 0 (1 none) 1 (0 none) none (0 1 none).
        ran("one boat, two weeks", x, 0, 10);
        x.plant(0, 0);
        ran("one boat, one week", x, 0, 5);
    }

    private static void goesOnAboveTheBest() {
        due.of("if its HOPE is above the WORTH of the best plan that was met");
        int[] second = {9, 10, 11};
        int[] nodes = {6, 6, 9};
        int[] worths = {16, 16, 17};
        int[] weeks = {0, 0, 1};
        for (int i = 0; i < 3; i++) {
            HarvestPlans x = Farms.of(Farms.kilos(10, second[i]), Farms.kilos(4, 6));
            x.prices(1, 0);
            // Behind week 0 the best is 16; the hope of week 1 is its own kilos and 6.
            ran("hope of " + (second[i] + 6), x, 0, nodes[i]);
            due.is("worth", worths[i], x.worth());
            due.is("taken", weeks[i], x.taken(0));
        }
    }

    private static void goesOnWhileNoneIsMet() {
        due.of("goes on behind a node: where none was met, for any HOPE, for one of 0 too");
        HarvestPlans x = new HarvestPlans(1);
        x.place(0);
        x.plant(0, 2);
        for (int c = 0; c < 2; c++) {
            x.cage(0);
            x.size(c, 0, 1000, 1);
            x.boat(1);
        }
        ran("nothing is worth anything and nothing can be held", x, 2, 6);
    }

    private static void metIfAllIsHeld() {
        due.of("behind the last cage a plan is MET if it keeps all rules in each week");
        HarvestPlans x = new HarvestPlans(3);
        x.place(8);
        x.cage(0);
        x.boat(100);
        int[] kilos = {3, 8, 9};
        for (int w = 0; w < 3; w++) {
            x.size(0, w, 1000, kilos[w]);
            x.plant(w, 100);
        }
        x.prices(1, 2);
        ran("9 and 18 would be too much at the place", x, 0, 4);
        due.is("the best that is left", 1, x.taken(0));
        due.is("its worth", 8, x.worth());
        for (int w = 0; w < 3; w++) {
            HarvestPlans y = new HarvestPlans(3);
            y.place(8);
            y.cage(0);
            y.size(0, w, 1000, 9);
            // Without a plant it can be taken in the other weeks alone, and only an earlier one helps.
            ran("too much in week " + w, y, w == 0 ? 2 : 0, 3);
        }
    }

    private static void metIfAbove() {
        due.of("its WORTH is above that of the best one before");
        int[] second = {4, 5, 6};
        int[] weeks = {0, 0, 1};
        for (int i = 0; i < 3; i++) {
            HarvestPlans x = Farms.of(Farms.kilos(5, second[i]));
            x.prices(1, 0);
            ran("5 and " + second[i], x, 0, 3);
            due.is("taken", weeks[i], x.taken(0));
            // An order of no kilos has the search look behind week 1, whatever it is worth.
            x.order(1, 0, 20000, 0, 9);
            ran("5 and " + second[i] + ", with a vain hope", x, 0, 3);
            due.is("taken with a vain hope", weeks[i], x.taken(0));
        }
    }

    private static void metAboveNone() {
        due.of("(each is above none)");
        HarvestPlans x = Farms.of(Farms.kilos(1), Farms.kilos(1));
        ran("nothing is worth anything", x, 0, 4);
        due.is("worth", 0, x.worth());
        due.is("the first plan", 0, x.taken(0));
        due.is("the first plan", 0, x.taken(1));
    }

    // ---- THE HOPE

    private static void hopeOfThoseBehind() {
        due.of("the TOPS of the cages so far, and of each cage behind them the greatest of its tops, together");
        HarvestPlans x = Farms.of(Farms.kilos(5, 4), Farms.kilos(1, 3), Farms.kilos(2, 1));
        x.prices(1, 0);
        due.is("before any", 5 + 3 + 2, x.hope());
        // 0 (10): 0 0 (8): three, 8 is met; 0 1 (10): three, 10 is met; 0 none (7); 1 (9); none (5).
        ran("three cages", x, 0, 12);
        x.size(0, 1, 1000, 6);
        // Week 1 has a hope of 11 now: 1 0 (9); 1 1 (11): three, 11 is met; 1 none (8).
        ran("a hope just above", x, 0, 12 + 6);
    }

    private static void hopeOfNoneBehind() {
        due.of("that of none is what it counts for KEEP: for cages behind too");
        HarvestPlans x = Farms.of(Farms.kilos(1), Farms.kilos(1));
        x.prices(1, 5);
        due.is("hope", 10, x.hope());
        // 0 (6): 2 and then 6 are met; none (10): 6 is not above, 10 is met.
        ran("keeping is best", x, 0, 6);
        due.is("taken", NONE, x.taken(0));
        due.is("taken", NONE, x.taken(1));
    }

    private static long hopeWithOrder(int week, int least, int most, int kilos, int cents) {
        HarvestPlans x = Farms.withoutBoats(Farms.kilos(10, 20));
        x.prices(3, 0);
        x.order(week, least, most, kilos, cents);
        return x.hope();
    }

    private static void topsAndBounds() {
        due.of("orders in whose bounds its GRAMS are");
        due.is("just its grams", 80, hopeWithOrder(1, 1000, 1000, 1, 4));
        due.is("up to its grams", 80, hopeWithOrder(1, 0, 1000, 1, 4));
        due.is("from its grams on", 80, hopeWithOrder(1, 1000, 20000, 1, 4));
        due.is("one below", 60, hopeWithOrder(1, 0, 999, 1, 4));
        due.is("one above", 60, hopeWithOrder(1, 1001, 20000, 1, 4));
    }

    private static void topsAndCents() {
        due.of("the greatest of SPOT and the CENTS");
        due.is("cents of 0", 60, hopeWithOrder(1, 0, 20000, 1, 0));
        due.is("one below SPOT", 60, hopeWithOrder(1, 0, 20000, 1, 2));
        due.is("as SPOT", 60, hopeWithOrder(1, 0, 20000, 1, 3));
        due.is("one above SPOT", 80, hopeWithOrder(1, 0, 20000, 1, 4));
        due.is("the most cents", 200000, hopeWithOrder(1, 0, 20000, 1, 10000));
        HarvestPlans x = Farms.withoutBoats(Farms.kilos(10, 20));
        int[] cents = {4, 6, 5, 2};
        int[] want = {80, 120, 120, 120};
        for (int i = 0; i < 4; i++) {
            x.order(1, 1000, 1000, 1, cents[i]);
            due.is("orders up to " + i, want[i], x.hope());
        }
    }

    private static void topsAndWeeks() {
        due.of("that week's orders; of each the greatest of its tops");
        due.is("week 0, below week 1 for SPOT", 60, hopeWithOrder(0, 0, 20000, 1, 5));
        due.is("week 0, as much", 60, hopeWithOrder(0, 0, 20000, 1, 6));
        due.is("week 0, above", 70, hopeWithOrder(0, 0, 20000, 1, 7));
        HarvestPlans x = Farms.withoutBoats(Farms.kilos(0, 0, 0, 0, 0, 0, 0, 5));
        x.prices(2, 0);
        due.is("the last week", 10, x.hope());
        x.size(0, 0, 1000, 6);
        due.is("the first week", 12, x.hope());
    }

    private static void topsOfNoKilos() {
        due.of("the TOP of a cage in a week are its KILOS times the greatest: however small the order");
        due.is("an order of no kilograms", 80, hopeWithOrder(1, 0, 20000, 0, 4));
        HarvestPlans x = Farms.withoutBoats(Farms.kilos(0, 0));
        x.size(0, 0, 999, 1);
        x.prices(10000, 10000);
        due.is("a cage of no kilos", 0, x.hope());
    }

    private static void topOfNone() {
        due.of("that of none is what it counts for KEEP");
        HarvestPlans x = Farms.withoutBoats(Farms.kilos(30, 20));
        x.prices(1, 1);
        due.is("below", 30, x.hope());
        x.prices(1, 2);
        due.is("above, of the last week", 40, x.hope());
        x.prices(0, 1);
        due.is("KEEP alone", 20, x.hope());
    }

    // ---- SPENT

    private static void spentByOneNode() {
        due.of("When as many nodes as told were made, and there is a further one, the search is SPENT.");
        HarvestPlans x = Farms.of(Farms.kilos(5, 4), Farms.kilos(1, 3), Farms.kilos(2, 1));
        x.prices(1, 0);
        for (int limit = 1; limit <= 14; limit++) {
            // 12 nodes are all; the first plan is met at the third.
            int want = limit >= 12 ? 0 : limit >= 3 ? 1 : 3;
            due.is("run(" + limit + ")", want, x.run(limit));
            due.is("nodes of run(" + limit + ")", Math.min(limit, 12), x.nodes());
        }
        HarvestPlans none = Farms.withoutBoats(Farms.kilos(1));
        due.is("a single node, just as told", 0, none.run(1));
        due.is("nodes", 1, none.nodes());
    }

    private static void spentAndNoneMet() {
        due.of("3 it was SPENT and none was met; 2 no plan keeps them: by one node");
        HarvestPlans x = new HarvestPlans(1);
        x.place(0);
        x.cage(0);
        x.cage(0);
        x.size(0, 0, 1000, 1);
        // Cage 0 has none alone; cage 1 of no kilos may be taken or not.
        due.is("run(1)", 3, x.run(1));
        due.is("run(2)", 3, x.run(2));
        due.is("run(3)", 2, x.run(3));
        due.is("run(4)", 2, x.run(4));
        due.is("nodes", 3, x.nodes());
    }

    private static void spentWithTheLastOneMet() {
        due.of("the best that was met: behind the last node that was told too");
        HarvestPlans x = Farms.of(Farms.kilos(7, 9));
        x.prices(1, 0);
        due.is("run(1)", 1, x.run(1));
        due.is("taken", 0, x.taken(0));
        due.is("run(2)", 1, x.run(2));
        due.is("taken", 1, x.taken(0));
        due.is("worth", 9, x.worth());
    }

    private static void spentNotWithoutCages() {
        due.of("and there is a further one: without cages there is none");
        HarvestPlans x = new HarvestPlans(1);
        due.is("run(1)", 0, x.run(1));
        due.is("nodes", 0, x.nodes());
        x.place(0);
        x.boat(0);
        due.is("run(5000)", 0, x.run(5000));
        due.is("nodes", 0, x.nodes());
    }
}
