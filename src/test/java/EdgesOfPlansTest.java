/** The boundary cases of the promises 11 to 18, each under the document's words. */
public final class EdgesOfPlansTest {
    private static final int NONE = Farms.NONE;
    private static final int LOW = Farms.LOW;
    private static final int HIGH = Farms.HIGH;

    private static Due due;

    public static void main(String[] args) {
        due = new Due("EdgesOfPlansTest");
        nodesToldInBounds();
        moreNodesThanMayBeTold();
        theBestIsAtHand();
        theBestMetIsAtHand();
        noneIsAtHand();
        runWithoutCages();
        runsAreAlike();
        nodesBeforeAny();
        nodesOfTheLatest();
        hopeWithoutCages();
        hopeWhateverThePlan();
        moveInBounds();
        moveToNone();
        moveFromNoPlan();
        moveFromAPlan();
        moveAgainstTheRules();
        takenWithoutAPlan();
        takenByAPlan();
        checkWithoutAPlan();
        checkNothing();
        checkEachWeekAndRules();
        checkFirstWeek();
        worthWithoutAPlan();
        worthOfABrokenPlan();
        soldWithoutAPlan();
        soldOfNothing();
        soldByEachPlan();
        looksLeaveThePlan();
        manyCalls();
        due.end();
    }

    private static void noPlan(String what, HarvestPlans x) {
        due.refuses(what + ": check", Due.STATE, () -> x.check());
        due.refuses(what + ": worth", Due.STATE, () -> x.worth());
        due.refuses(what + ": sold", Due.STATE, () -> x.sold(0));
        due.is(what + ": taken", NONE, x.taken(0));
    }

    /** One cage at a place that can't hold it in any plan, and an order. */
    private static HarvestPlans hopeless() {
        HarvestPlans x = new HarvestPlans(2);
        x.place(0);
        x.cage(0);
        x.size(0, 0, 1000, 1);
        x.order(0, 0, 20000, 1, 1);
        return x;
    }

    // ---- 11

    private static void nodesToldInBounds() {
        due.of("THE SEARCH with so many nodes (1 .. 5000)");
        HarvestPlans x = Farms.of(Farms.kilos(1, 2));
        for (int wrong : new int[] {0, -1, LOW, 5001, 5002, HIGH}) {
            due.refuses("run(" + wrong + ")", Due.ARGUMENT, () -> x.run(wrong));
        }
        due.is("the fewest", 1, x.run(1));
        due.is("the fewest made", 1, x.nodes());
        due.is("the most", 0, x.run(5000));
        due.is("all made", 3, x.nodes());
    }

    private static void moreNodesThanMayBeTold() {
        due.of("1 it was SPENT, and the best that was met is: with the most nodes too");
        HarvestPlans x = new HarvestPlans(8);
        for (int c = 0; c < 6; c++) {
            if (c < 4) {
                x.place(0);
            }
            x.cage(c % 4);
        }
        x.prices(1, 1);
        x.order(0, 0, 20000, 0, 1);
        due.is("cages of no kilos: all hopes are 0, no plan is above the first", 0, x.run(5000));
        // 0 for all six, then the other eight of cage 5, then eight of each cage before without going on.
        due.is("nodes", 6 + 6 * 8, x.nodes());
        x.size(0, 0, 1000, 1);
        // Place 0 holds nothing, so none is ever met and each of the 9 ways of the cages behind is gone.
        due.is("none held, more than 5000 nodes", 3, x.run(5000));
        due.is("nodes", 5000, x.nodes());
        due.is("hope behind it", 1, x.hope());
        due.is("one fewer", 3, x.run(4999));
        due.is("nodes", 4999, x.nodes());
    }

    private static void theBestIsAtHand() {
        due.of("0 the best of all plans that keep the rules is at hand");
        HarvestPlans x = Farms.of(Farms.kilos(3, 5, 4));
        x.prices(1, 0);
        x.order(0, 0, 20000, 9, 1);
        x.move(0, 2);
        due.is("run", 0, x.run(5000));
        due.is("taken", 1, x.taken(0));
        due.is("check", 0, x.check());
        due.is("worth", 5, x.worth());
        due.is("sold", 0, x.sold(0));
        due.is("move", 1, x.move(0, 0));
    }

    private static void theBestMetIsAtHand() {
        due.of("1 it was SPENT, and the best that was met is");
        HarvestPlans x = Farms.of(Farms.kilos(3, 2, 4));
        x.prices(1, 0);
        x.move(0, 2);
        due.is("run(2)", 1, x.run(2));
        due.is("taken", 0, x.taken(0));
        due.is("check", 0, x.check());
        due.is("worth", 3, x.worth());
    }

    private static void noneIsAtHand() {
        due.of("(for 2 and 3 no plan is at hand)");
        HarvestPlans x = hopeless();
        due.is("no plan keeps them", 2, x.run(5000));
        noPlan("2 from no plan", x);
        due.is("spent", 3, x.run(1));
        noPlan("3 from no plan", x);
        x.move(0, 1);
        due.is("no plan keeps them", 2, x.run(5000));
        noPlan("2 from a plan", x);
        x.move(0, 1);
        due.is("spent", 3, x.run(1));
        noPlan("3 from a plan", x);
        due.is("a move then starts from none", NONE, x.move(0, 0));
        x.size(0, 0, 1000, 0);
        due.is("a plan keeps them now", 0, x.run(5000));
        x.size(0, 0, 1000, 1);
        due.is("and no more", 2, x.run(5000));
        noPlan("2 after a run that met one", x);
        due.is("a move starts from none, not from a run before", NONE, x.move(0, 1));
    }

    private static void runWithoutCages() {
        due.of("0 the best of all plans: without cages the plan of none");
        HarvestPlans x = new HarvestPlans(8);
        x.order(7, 0, 20000, 100, 100);
        due.is("run", 0, x.run(1));
        due.is("check", 0, x.check());
        due.is("worth", 0, x.worth());
        due.is("sold", 0, x.sold(0));
        due.refuses("no cage for all that", Due.ARGUMENT, () -> x.taken(0));
        x.place(5);
        due.refuses("and no plan any more", Due.STATE, () -> x.check());
    }

    private static void runsAreAlike() {
        due.of("THE SEARCH: each starts anew");
        HarvestPlans x = Farms.of(Farms.kilos(5, 4), Farms.kilos(1, 3), Farms.kilos(2, 1));
        x.prices(1, 0);
        for (int again = 0; again < 3; again++) {
            due.is("run", 0, x.run(5000));
            due.is("nodes", 12, x.nodes());
            due.is("worth", 10, x.worth());
            due.is("a run with fewer", 3, x.run(2));
        }
        x.prices(0, 0);
        due.is("what is worth less than before is met too", 0, x.run(5000));
        due.is("worth", 0, x.worth());
    }

    // ---- 12

    private static void nodesBeforeAny() {
        due.of("0 before any.");
        HarvestPlans x = Farms.of(Farms.kilos(1));
        due.is("at first", 0, x.nodes());
        due.refuses("run(0)", Due.ARGUMENT, () -> x.run(0));
        x.move(0, 0);
        due.is("a refused run and a move are none", 0, x.nodes());
    }

    private static void nodesOfTheLatest() {
        due.of("How many nodes the latest run() made");
        HarvestPlans x = Farms.of(Farms.kilos(1, 1));
        x.run(5000);
        due.is("three", 3, x.nodes());
        x.run(2);
        due.is("two", 2, x.nodes());
        due.refuses("run(5001)", Due.ARGUMENT, () -> x.run(5001));
        due.is("a refused run is none", 2, x.nodes());
        x.move(0, 1);
        x.prices(5, 5);
        x.cage(0);
        due.is("what there is changes it not", 2, x.nodes());
        HarvestPlans none = hopeless();
        none.run(1);
        due.is("spent", 1, none.nodes());
        none.run(5000);
        due.is("no plan keeps them", 2, none.nodes());
    }

    // ---- 13

    private static void hopeWithoutCages() {
        due.of("The HOPE before any cage: of each the greatest of its tops, together.");
        HarvestPlans x = new HarvestPlans(1);
        x.prices(10000, 10000);
        x.order(0, 0, 20000, 100, 10000);
        due.is("no cages", 0, x.hope());
        x.place(0);
        for (int c = 0; c < 6; c++) {
            x.cage(0);
            due.is("a cage of nothing more", (long) c * 10000, x.hope());
            x.size(c, 0, 1000, 1);
            due.is("a cage of one more", (c + 1L) * 10000, x.hope());
        }
    }

    private static void hopeWhateverThePlan() {
        due.of("The HOPE before any cage: no rule and no plan changes it");
        HarvestPlans x = Farms.of(Farms.kilos(1, 2), Farms.kilos(3, 1));
        x.prices(10, 0);
        due.is("without a plan", 50, x.hope());
        x.move(0, 0);
        due.is("with a plan", 50, x.hope());
        x.run(5000);
        due.is("after a run", 50, x.hope());
        x.run(1);
        due.is("after a spent run", 50, x.hope());
        x.plant(1, 0);
        x.closed(0, 0, true);
        x.weather(0, 0, true);
        due.is("whatever is ruled out", 50, x.hope());
    }

    // ---- 14

    private static void moveInBounds() {
        due.of("A cage is taken in a week (NONE: in none) by hand");
        HarvestPlans x = Farms.of(Farms.kilos(1, 1, 1));
        for (int wrong : new int[] {-2, LOW, 3, 4, HIGH}) {
            due.refuses("week " + wrong, Due.ARGUMENT, () -> x.move(0, wrong));
        }
        due.refuses("no plan by a refused move", Due.STATE, () -> x.worth());
        due.is("the first week", NONE, x.move(0, 0));
        due.is("the last week", 0, x.move(0, 2));
        due.is("none", 2, x.move(0, NONE));
        due.is("was none", NONE, x.move(0, 1));
        due.is("the same", 1, x.move(0, 1));
        due.is("and again", 1, x.taken(0));
    }

    private static void moveToNone() {
        due.of("(NONE: in none)");
        HarvestPlans x = Farms.of(Farms.kilos(1, 4), Farms.kilos(1, 5));
        x.prices(0, 1);
        due.is("from no plan", NONE, x.move(1, NONE));
        due.is("is a plan for all that", 9, x.worth());
        due.is("that keeps the rules", 0, x.check());
    }

    private static void moveFromNoPlan() {
        due.of("(where there was none, from that on in which no cage is taken)");
        HarvestPlans x = Farms.of(Farms.kilos(1, 1), Farms.kilos(1, 1), Farms.kilos(1, 1));
        for (int c = 0; c < 3; c++) {
            x.move(c, 1);
        }
        x.prices(1, 0);
        due.is("from none", NONE, x.move(1, 0));
        due.is("cage 0", NONE, x.taken(0));
        due.is("cage 1", 0, x.taken(1));
        due.is("cage 2", NONE, x.taken(2));
        due.is("worth", 1, x.worth());
        x.run(5000);
        x.prices(1, 0);
        due.is("from none after a run", NONE, x.move(0, 1));
        due.is("cage 2 after a run", NONE, x.taken(2));
    }

    private static void moveFromAPlan() {
        due.of("the plan at hand is another one then: in which week it was taken before, NONE");
        HarvestPlans x = Farms.of(Farms.kilos(2, 3), Farms.kilos(3, 2));
        x.prices(1, 0);
        x.run(5000);
        due.is("was by the run", 1, x.move(0, 0));
        due.is("the other stays", 0, x.taken(1));
        due.is("worth", 5, x.worth());
        due.is("the other was by the run", 0, x.move(1, NONE));
        due.is("worth without it", 2, x.worth());
    }

    private static void moveAgainstTheRules() {
        due.of("plans by hand held against the same rules: a move is not refused for them");
        HarvestPlans x = Farms.greatest(0, 0);
        x.closed(0, 0, true);
        due.is("move", NONE, x.move(0, 0));
        due.is("check", 1, x.check());
        due.is("taken", 0, x.taken(0));
    }

    // ---- 15

    private static void takenWithoutAPlan() {
        due.of("NONE in none, and without a plan at hand.");
        HarvestPlans x = Farms.of(Farms.kilos(1), Farms.kilos(1));
        due.is("without a plan", NONE, x.taken(1));
        x.move(0, 0);
        due.is("in none", NONE, x.taken(1));
        x.move(1, 0);
        due.is("in week 0", 0, x.taken(1));
        x.plant(0, 0);
        due.is("without a plan again", NONE, x.taken(1));
    }

    private static void takenByAPlan() {
        due.of("In which week the plan at hand takes a cage");
        HarvestPlans x = new HarvestPlans(8);
        x.place(0);
        for (int c = 0; c < 6; c++) {
            x.cage(0);
        }
        for (int c = 0; c < 6; c++) {
            x.move(c, 7 - c);
        }
        for (int c = 0; c < 6; c++) {
            due.is("cage " + c, 7 - c, x.taken(c));
        }
    }

    // ---- 16

    private static void checkWithoutAPlan() {
        due.of("Whether the plan at hand keeps all rules. Illegal state: there is no plan at hand.");
        HarvestPlans x = Farms.of(Farms.kilos(1));
        due.refuses("at first", Due.STATE, () -> x.check());
        x.move(0, 0);
        due.is("with a plan", 0, x.check());
        x.prices(1, 1);
        due.refuses("without one again", Due.STATE, () -> x.check());
    }

    private static void checkNothing() {
        due.of("Whether the plan at hand keeps all rules: 0");
        HarvestPlans x = new HarvestPlans(8);
        x.run(1);
        due.is("nothing at all", 0, x.check());
        x.place(0);
        x.cage(0);
        x.move(0, 7);
        due.is("nothing taken in the last week", 0, x.check());
    }

    /** In a week any of the rules are broken: 1 is bit 0, 2 is bit 1, 3 is bit 2, 4 is bit 3. */
    private static HarvestPlans breaking(int week, int rules) {
        HarvestPlans x = new HarvestPlans(8);
        x.place(100);
        x.place(9);
        x.cage(0);
        x.cage(1);
        x.boat(10);
        x.size(0, week, 1000, 10);
        x.plant(week, (rules & 1) != 0 ? 9 : 10);
        x.weather(0, week, (rules & 2) != 0);
        x.closed(0, week, (rules & 4) != 0);
        x.size(1, week, 1000, (rules & 8) != 0 ? 10 : 9);
        x.move(0, week);
        return x;
    }

    private static void checkEachWeekAndRules() {
        due.of("else 10 times the first week in which it does not, and the least rule that it breaks then");
        for (int week = 0; week < 8; week++) {
            for (int rules = 0; rules < 16; rules++) {
                int least = Integer.numberOfTrailingZeros(rules) + 1;
                int want = rules == 0 ? 0 : 10 * week + least;
                due.is("week " + week + " rules " + rules, want, breaking(week, rules).check());
            }
        }
    }

    private static void checkFirstWeek() {
        due.of("the first week in which it does not");
        HarvestPlans x = breaking(3, 8);
        due.is("week 3 alone", 34, x.check());
        x.size(0, 5, 1000, 10);
        x.move(0, 5);
        due.is("a lesser rule in a later week", 34, x.check());
        x.size(1, 2, 1000, 10);
        x.move(0, 5);
        due.is("the same rule in an earlier week", 24, x.check());
        x.move(1, 0);
        due.is("the later week is left", 51, x.check());
    }

    // ---- 17

    private static void worthWithoutAPlan() {
        due.of("The WORTH of the plan at hand. Illegal state: there is none.");
        HarvestPlans x = Farms.of(Farms.kilos(1));
        x.prices(3, 2);
        due.refuses("at first", Due.STATE, () -> x.worth());
        x.move(0, NONE);
        due.is("none taken", 2, x.worth());
        x.run(5000);
        due.is("by a run", 3, x.worth());
        x.closed(0, 0, true);
        due.refuses("without one again", Due.STATE, () -> x.worth());
    }

    private static void worthOfABrokenPlan() {
        due.of("The WORTH of the plan at hand: of one that breaks rules too");
        for (int rules = 0; rules < 16; rules++) {
            HarvestPlans x = breaking(7, rules);
            x.prices(2, 1);
            x.move(0, 7);
            due.is("rules " + rules, 20 + ((rules & 8) != 0 ? 10 : 9), x.worth());
        }
    }

    // ---- 18

    private static void soldWithoutAPlan() {
        due.of("Illegal argument; illegal state: there is none.");
        HarvestPlans x = Farms.of(Farms.kilos(1));
        x.order(0, 0, 20000, 1, 1);
        due.refuses("no plan", Due.STATE, () -> x.sold(0));
        for (int wrong : Farms.outside(0)) {
            due.refuses("order " + wrong + " without a plan", Due.ARGUMENT, () -> x.sold(wrong));
        }
        x.move(0, 0);
        for (int wrong : Farms.outside(0)) {
            due.refuses("order " + wrong + " with a plan", Due.ARGUMENT, () -> x.sold(wrong));
        }
        due.is("sold", 1, x.sold(0));
    }

    private static void soldOfNothing() {
        due.of("How many kilograms an order gets by the plan at hand: 0 too");
        HarvestPlans x = Farms.of(Farms.kilos(5, 0));
        x.order(0, 0, 20000, 0, 9);
        x.order(0, 0, 20000, 2, 8);
        x.order(1, 0, 20000, 5, 7);
        int[] weeks = {NONE, 0, 1};
        int[] want = {0, 2, 0};
        for (int i = 0; i < 3; i++) {
            x.move(0, weeks[i]);
            due.is("an order of nothing", 0, x.sold(0));
            due.is("taken in " + weeks[i], want[i], x.sold(1));
            due.is("a cage of nothing then", 0, x.sold(2));
        }
    }

    private static void soldByEachPlan() {
        due.of("by the plan at hand: by a run, and by a move after it");
        HarvestPlans x = Farms.of(Farms.kilos(5, 4), Farms.kilos(4, 6));
        x.order(0, 0, 20000, 7, 2);
        x.order(1, 0, 20000, 7, 2);
        x.run(5000);
        due.is("by the run", 5, x.sold(0));
        due.is("by the run", 6, x.sold(1));
        x.move(0, 1);
        due.is("none left in week 0", 0, x.sold(0));
        due.is("full in week 1", 7, x.sold(1));
        x.run(1);
        due.refuses("spent before a plan was met", Due.STATE, () -> x.sold(1));
    }

    // ---- the calls of plans, and the calls of an object

    private static void looksLeaveThePlan() {
        due.of("nodes, hope, taken, check, worth, sold: what they tell stays");
        HarvestPlans x = Farms.of(Farms.kilos(5, 4), Farms.kilos(4, 6));
        x.prices(1, 0);
        x.order(1, 0, 20000, 3, 2);
        x.move(0, 0);
        x.move(1, 1);
        for (int again = 0; again < 3; again++) {
            due.is("nodes", 0, x.nodes());
            due.is("hope", 8 + 12, x.hope());
            due.is("taken", 1, x.taken(1));
            due.is("check", 0, x.check());
            due.is("worth", 5 + 9, x.worth());
            due.is("sold", 3, x.sold(0));
        }
    }

    private static void manyCalls() {
        due.of("An object is used for at most 512 calls after it has been made");
        HarvestPlans x = new HarvestPlans(8);
        x.place(Farms.MOST_KILOS);
        x.cage(0);
        for (int calls = 2; calls < 510; calls += 2) {
            int week = calls / 2 % 8;
            due.is("size", calls, x.size(0, week, 1000, calls));
            due.is("move", NONE, x.move(0, week));
        }
        x.prices(0, 1);
        // The last week counts for KEEP; its size was told for the last time behind 494 calls (247 is 7 by 8).
        due.is("the 512th call", 494, x.hope());
    }
}
