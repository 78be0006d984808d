/** Each promise of the document by hand: ordinary inputs, the edges it names, wrong inputs. */
public final class PromisesTest {
    private static final int NONE = HarvestPlans.NONE;
    private static final int LOW = Integer.MIN_VALUE;
    private static final int HIGH = Integer.MAX_VALUE;
    private static final int[] MANY_KILOS = {-1, LOW, 100000001, HIGH};
    private static final int[] WRONG_CENTS = {-1, LOW, 10001, HIGH};

    private static Due due;

    public static void main(String[] args) {
        due = new Due("PromisesTest");
        due.is("NONE", -1, HarvestPlans.NONE);
        newObject();
        place();
        closed();
        cage();
        size();
        boat();
        weather();
        plant();
        order();
        prices();
        run();
        runIsBounded();
        runBoundsByHope();
        nodes();
        hope();
        move();
        taken();
        check();
        checkBoats();
        checkHeld();
        worth();
        sold();
        changesLeaveNoPlan();
        refusedCallsChangeNothing();
        due.end();
    }

    /** One place for all, one cage a row of kilos (of fish of 1000 grams), and a plant and a boat for all of it. */
    private static HarvestPlans farm(int[]... kilosByWeek) {
        int weeks = kilosByWeek[0].length;
        HarvestPlans x = new HarvestPlans(weeks);
        x.place(100000000);
        for (int c = 0; c < kilosByWeek.length; c++) {
            x.cage(0);
            for (int w = 0; w < weeks; w++) {
                x.size(c, w, 1000, kilosByWeek[c][w]);
            }
        }
        for (int w = 0; w < weeks; w++) {
            x.plant(w, 100000000);
        }
        return x;
    }

    private static int weeksOf(HarvestPlans x) {
        for (int w = 0; w < 20; w++) {
            try {
                x.plant(w, 0);
            } catch (IllegalArgumentException e) {
                return w;
            }
        }
        return 20;
    }

    // 1
    private static void newObject() {
        int[] told = {LOW, -1, 0, 1, 2, 7, 8, 9, HIGH};
        int[] want = {1, 1, 1, 1, 2, 7, 8, 8, 8};
        for (int i = 0; i < told.length; i++) {
            due.is("1 weeks of " + told[i], want[i], weeksOf(new HarvestPlans(told[i])));
        }
        HarvestPlans x = new HarvestPlans(3);
        due.refuses("1 no place", Due.ARGUMENT, () -> x.closed(0, 0, true));
        due.refuses("1 no place for a cage", Due.ARGUMENT, () -> x.cage(0));
        due.refuses("1 no cage", Due.ARGUMENT, () -> x.taken(0));
        due.refuses("1 no boat", Due.ARGUMENT, () -> x.weather(0, 0, true));
        due.refuses("1 no order", Due.ARGUMENT, () -> x.sold(0));
        due.refuses("1 no plan for check", Due.STATE, () -> x.check());
        due.refuses("1 no plan for worth", Due.STATE, () -> x.worth());
        due.is("1 nodes", 0, x.nodes());
        due.is("1 hope", 0, x.hope());
        for (int w = 0; w < 3; w++) {
            due.is("1 plant", 0, x.plant(w, 1));
        }
    }

    // 2
    private static void place() {
        HarvestPlans x = new HarvestPlans(1);
        for (int wrong : MANY_KILOS) {
            due.refuses("2 place " + wrong, Due.ARGUMENT, () -> x.place(wrong));
        }
        due.is("2 first", 0, x.place(0));
        due.is("2 second", 1, x.place(100000000));
        due.is("2 third", 2, x.place(7));
        due.is("2 fourth", 3, x.place(7));
        due.refuses("2 fifth", Due.STATE, () -> x.place(7));
        due.refuses("2 fifth and wrong", Due.ARGUMENT, () -> x.place(-1));
        due.is("2 fourth stands", false, x.closed(3, 0, false));
        due.refuses("2 no fifth", Due.ARGUMENT, () -> x.closed(4, 0, false));
    }

    // 3
    private static void closed() {
        HarvestPlans x = new HarvestPlans(2);
        x.place(10);
        x.place(10);
        due.is("3 open at first", false, x.closed(0, 0, true));
        due.is("3 closed then", true, x.closed(0, 0, true));
        due.is("3 other week", false, x.closed(0, 1, false));
        due.is("3 other place", false, x.closed(1, 0, false));
        due.is("3 still closed", true, x.closed(0, 0, false));
        due.is("3 open again", false, x.closed(0, 0, false));
        due.refuses("3 place -1", Due.ARGUMENT, () -> x.closed(-1, 0, true));
        due.refuses("3 place 2", Due.ARGUMENT, () -> x.closed(2, 0, true));
        due.refuses("3 week -1", Due.ARGUMENT, () -> x.closed(0, NONE, true));
        due.refuses("3 week 2", Due.ARGUMENT, () -> x.closed(0, 2, true));
        due.refuses("3 far off", Due.ARGUMENT, () -> x.closed(LOW, HIGH, true));
    }

    // 4
    private static void cage() {
        HarvestPlans x = new HarvestPlans(1);
        due.refuses("4 no place yet", Due.ARGUMENT, () -> x.cage(0));
        x.place(5);
        x.place(50);
        due.refuses("4 place -1", Due.ARGUMENT, () -> x.cage(-1));
        due.refuses("4 place 2", Due.ARGUMENT, () -> x.cage(2));
        for (int c = 0; c < 6; c++) {
            due.is("4 number", c, x.cage(c == 5 ? 0 : 1));
        }
        due.refuses("4 seventh", Due.STATE, () -> x.cage(0));
        due.refuses("4 seventh and wrong", Due.ARGUMENT, () -> x.cage(2));
        x.size(4, 0, 1000, 6);
        x.move(0, NONE);
        due.is("4 cage 4 is at place 1", 0, x.check());
        x.size(5, 0, 1000, 6);
        x.move(0, NONE);
        due.is("4 cage 5 is at place 0", 4, x.check());
        due.is("4 other cages are of size 0", 0, x.worth());
    }

    // 5
    private static void size() {
        HarvestPlans x = new HarvestPlans(2);
        x.place(0);
        x.cage(0);
        due.is("5 the greatest", 2000000, x.size(0, 0, 20000, 100000));
        due.is("5 rounded down", 1, x.size(0, 0, 1999, 1));
        due.is("5 just none", 0, x.size(0, 0, 999, 1));
        due.is("5 just one", 1, x.size(0, 0, 1, 1000));
        due.is("5 zeros", 0, x.size(0, 1, 0, 0));
        due.is("5 no grams", 0, x.size(0, 1, 0, 100000));
        due.is("5 no fish", 0, x.size(0, 1, 20000, 0));
        due.refuses("5 cage -1", Due.ARGUMENT, () -> x.size(-1, 0, 1, 1));
        due.refuses("5 cage 1", Due.ARGUMENT, () -> x.size(1, 0, 1, 1));
        due.refuses("5 week -1", Due.ARGUMENT, () -> x.size(0, -1, 1, 1));
        due.refuses("5 week 2", Due.ARGUMENT, () -> x.size(0, 2, 1, 1));
        for (int wrong : new int[] {-1, LOW, 20001, HIGH}) {
            due.refuses("5 grams " + wrong, Due.ARGUMENT, () -> x.size(0, 0, wrong, 1));
        }
        for (int wrong : new int[] {-1, LOW, 100001, HIGH}) {
            due.refuses("5 fish " + wrong, Due.ARGUMENT, () -> x.size(0, 0, 1, wrong));
        }
    }

    // 6
    private static void boat() {
        HarvestPlans x = new HarvestPlans(1);
        for (int wrong : MANY_KILOS) {
            due.refuses("6 boat " + wrong, Due.ARGUMENT, () -> x.boat(wrong));
        }
        due.is("6 first", 0, x.boat(0));
        due.is("6 second", 1, x.boat(100000000));
        due.is("6 third", 2, x.boat(5));
        due.refuses("6 fourth", Due.STATE, () -> x.boat(5));
        due.refuses("6 fourth and wrong", Due.ARGUMENT, () -> x.boat(100000001));
        due.refuses("6 no fourth", Due.ARGUMENT, () -> x.weather(3, 0, true));
    }

    // 7
    private static void weather() {
        HarvestPlans x = new HarvestPlans(2);
        x.boat(10);
        x.boat(10);
        due.is("7 not at first", false, x.weather(1, 1, true));
        due.is("7 barred then", true, x.weather(1, 1, true));
        due.is("7 other week", false, x.weather(1, 0, false));
        due.is("7 other boat", false, x.weather(0, 1, false));
        due.is("7 still barred", true, x.weather(1, 1, false));
        due.is("7 not again", false, x.weather(1, 1, false));
        due.refuses("7 boat -1", Due.ARGUMENT, () -> x.weather(-1, 0, true));
        due.refuses("7 boat 2", Due.ARGUMENT, () -> x.weather(2, 0, true));
        due.refuses("7 week -1", Due.ARGUMENT, () -> x.weather(0, -1, true));
        due.refuses("7 week 2", Due.ARGUMENT, () -> x.weather(0, 2, true));
    }

    // 8
    private static void plant() {
        HarvestPlans x = new HarvestPlans(2);
        due.is("8 at first", 0, x.plant(0, 100000000));
        due.is("8 what it was", 100000000, x.plant(0, 5));
        due.is("8 other week", 0, x.plant(1, 0));
        due.is("8 what it was again", 5, x.plant(0, 0));
        due.refuses("8 week -1", Due.ARGUMENT, () -> x.plant(-1, 1));
        due.refuses("8 week 2", Due.ARGUMENT, () -> x.plant(2, 1));
        for (int wrong : MANY_KILOS) {
            due.refuses("8 kilos " + wrong, Due.ARGUMENT, () -> x.plant(0, wrong));
        }
        due.is("8 unchanged", 0, x.plant(0, 0));
    }

    // 9
    private static void order() {
        HarvestPlans x = new HarvestPlans(2);
        due.refuses("9 week -1", Due.ARGUMENT, () -> x.order(-1, 0, 1, 1, 1));
        due.refuses("9 week 2", Due.ARGUMENT, () -> x.order(2, 0, 1, 1, 1));
        due.refuses("9 least -1", Due.ARGUMENT, () -> x.order(0, -1, 1, 1, 1));
        due.refuses("9 most -1", Due.ARGUMENT, () -> x.order(0, -1, -1, 1, 1));
        due.refuses("9 most 20001", Due.ARGUMENT, () -> x.order(0, 0, 20001, 1, 1));
        due.refuses("9 both 20001", Due.ARGUMENT, () -> x.order(0, 20001, 20001, 1, 1));
        due.refuses("9 least above most", Due.ARGUMENT, () -> x.order(0, 6, 5, 1, 1));
        for (int wrong : MANY_KILOS) {
            due.refuses("9 kilos " + wrong, Due.ARGUMENT, () -> x.order(0, 0, 1, wrong, 1));
        }
        for (int wrong : WRONG_CENTS) {
            due.refuses("9 cents " + wrong, Due.ARGUMENT, () -> x.order(0, 0, 1, 1, wrong));
        }
        due.is("9 least edges", 0, x.order(0, 0, 0, 0, 0));
        due.is("9 greatest edges", 1, x.order(1, 20000, 20000, 100000000, 10000));
        for (int o = 2; o < 6; o++) {
            due.is("9 number", o, x.order(0, 5, 5, 1, 1));
        }
        due.refuses("9 seventh", Due.STATE, () -> x.order(0, 5, 5, 1, 1));
        due.refuses("9 seventh and wrong", Due.ARGUMENT, () -> x.order(0, 6, 5, 1, 1));
    }

    // 10
    private static void prices() {
        HarvestPlans x = farm(new int[] {3, 7}, new int[] {5, 11});
        x.move(0, 0);
        due.is("10 both 0 at first", 0, x.worth());
        x.prices(10000, 0);
        x.move(0, 0);
        due.is("10 spot", 30000, x.worth());
        x.prices(0, 10000);
        x.move(0, 0);
        due.is("10 keep", 110000, x.worth());
        for (int wrong : WRONG_CENTS) {
            due.refuses("10 spot " + wrong, Due.ARGUMENT, () -> x.prices(wrong, 1));
            due.refuses("10 keep " + wrong, Due.ARGUMENT, () -> x.prices(1, wrong));
        }
        due.is("10 unchanged", 110000, x.worth());
    }

    // 11
    private static void run() {
        HarvestPlans x = farm(new int[] {3, 4}, new int[] {4, 3});
        due.is("11 without boats no cage is taken", 0, x.run(5000));
        due.is("11 taken", NONE, x.taken(0));
        x.boat(4);
        x.prices(2, 1);
        due.is("11 one cage a week for one boat", 0, x.run(5000));
        due.is("11 cage 0 grows", 1, x.taken(0));
        due.is("11 cage 1 shrinks", 0, x.taken(1));
        due.is("11 worth", 16, x.worth());
        x.prices(1, 1);
        x.size(0, 0, 1000, 4);
        due.is("11 of plans of one worth", 0, x.run(5000));
        due.is("11 the first met, cage 0", 1, x.taken(0));
        due.is("11 the first met, cage 1", 0, x.taken(1));
        x.place(0);
        x.cage(1);
        x.size(2, 0, 1, 1000);
        due.is("11 no plan keeps HELD", 2, x.run(5000));
        due.is("11 none at hand", NONE, x.taken(0));
        due.refuses("11 none at hand for check", Due.STATE, () -> x.check());
        due.refuses("11 none at hand for worth", Due.STATE, () -> x.worth());
        due.refuses("11 nodes 0", Due.ARGUMENT, () -> x.run(0));
        due.refuses("11 nodes -1", Due.ARGUMENT, () -> x.run(-1));
        due.refuses("11 nodes 5001", Due.ARGUMENT, () -> x.run(5001));
        due.refuses("11 nodes far off", Due.ARGUMENT, () -> x.run(HIGH));
        HarvestPlans empty = new HarvestPlans(8);
        due.is("11 no cages", 0, empty.run(1));
        due.is("11 no cages, no nodes", 0, empty.nodes());
        due.is("11 no cages, a plan", 0, empty.check());
        due.is("11 no cages, no worth", 0, empty.worth());
    }

    private static void runIsBounded() {
        HarvestPlans x = farm(new int[] {3, 4}, new int[] {4, 3});
        x.boat(4);
        x.prices(2, 1);
        // Nodes: 0; 0 1 (12 is met); 0 none (9); 1; 1 0 (16 is met); 1 none (11); none, with a hope of 12 alone.
        int[] results = {3, 1, 1, 1, 1, 1, 0, 0};
        int[] worths = {-1, 12, 12, 12, 16, 16, 16, 16};
        for (int limit = 1; limit <= 8; limit++) {
            due.is("11 run(" + limit + ")", results[limit - 1], x.run(limit));
            due.is("12 nodes of run(" + limit + ")", Math.min(limit, 7), x.nodes());
            if (worths[limit - 1] >= 0) {
                due.is("11 worth of run(" + limit + ")", worths[limit - 1], x.worth());
            }
        }
        HarvestPlans none = farm(new int[] {1});
        none.place(0);
        none.cage(1);
        none.size(1, 0, 1000, 1);
        none.move(0, 0);
        due.is("11 spent and none met", 3, none.run(1));
        due.is("11 the plan by hand is gone", NONE, none.taken(0));
        due.refuses("11 the plan by hand is gone", Due.STATE, () -> none.worth());
        due.is("11 none kept with just enough nodes", 2, none.run(2));
        due.is("11 nodes then", 2, none.nodes());
    }

    private static void runBoundsByHope() {
        // Cage 0 is best taken in week 0 and cage 1 has no choice: behind the first plan every hope is too low.
        HarvestPlans x = farm(new int[] {9, 1, 1}, new int[] {0, 0, 0});
        x.boat(9);
        x.prices(5, 0);
        due.is("11 result", 0, x.run(5000));
        due.is("11 worth", 45, x.worth());
        // 0, behind it all four of cage 1 (45 each, the first is met), then 1, 2 and none without going on.
        due.is("12 nodes with bounds", 8, x.nodes());
        // The hope of an order that is too small to pay it lets the search go on.
        x.order(1, 0, 20000, 0, 10000);
        due.is("13 hope of an order of no kilos", 10000, x.hope());
        due.is("11 result", 0, x.run(5000));
        due.is("11 worth", 45, x.worth());
        due.is("12 nodes with a vain hope", 12, x.nodes());
        HarvestPlans even = farm(new int[] {1, 1}, new int[] {0, 0});
        even.boat(1);
        even.prices(1, 0);
        due.is("11 result", 0, even.run(5000));
        due.is("12 a hope that is just the best worth is not gone behind", 6, even.nodes());
        even.order(1, 0, 20000, 0, 5);
        due.is("11 result", 0, even.run(5000));
        due.is("11 the first of one worth stays, whatever was hoped", 0, even.taken(0));
        due.is("12 nodes of it", 9, even.nodes());
    }

    // 12
    private static void nodes() {
        HarvestPlans x = farm(new int[] {1, 1});
        due.is("12 before any", 0, x.nodes());
        due.refuses("12 refused run", Due.ARGUMENT, () -> x.run(0));
        due.is("12 before any", 0, x.nodes());
        x.run(5000);
        due.is("12 none alone without boats", 1, x.nodes());
        x.boat(1);
        due.is("12 the latest run stands", 1, x.nodes());
        x.run(5000);
        due.is("12 both weeks and none", 3, x.nodes());
        x.plant(0, 0);
        x.run(5000);
        due.is("12 not week 0 by the plant", 2, x.nodes());
        x.plant(0, 1);
        x.closed(0, 1, true);
        x.run(5000);
        due.is("12 not week 1 as closed", 2, x.nodes());
        x.weather(0, 0, true);
        x.run(5000);
        due.is("12 not week 0 by weather", 1, x.nodes());
        due.refuses("12 refused run", Due.ARGUMENT, () -> x.run(5001));
        due.is("12 unchanged by a refused run", 1, x.nodes());
        HarvestPlans full = new HarvestPlans(8);
        full.place(0);
        full.cage(0);
        full.size(0, 0, 1000, 1);
        full.run(5000);
        due.is("12 HELD makes no fewer nodes", 8, full.nodes());
    }

    // 13
    private static void hope() {
        HarvestPlans x = farm(new int[] {5, 9, 6}, new int[] {7, 2, 1});
        due.is("13 no prices", 0, x.hope());
        x.prices(10, 0);
        due.is("13 spot alone", 160, x.hope());
        x.prices(10, 20);
        due.is("13 none counts the last week for keep", 120 + 70, x.hope());
        x.order(0, 1000, 1000, 1, 30);
        due.is("13 an order of week 0", 150 + 210, x.hope());
        x.order(0, 0, 999, 1, 9000);
        x.order(0, 1001, 20000, 1, 9000);
        due.is("13 orders out of bounds", 360, x.hope());
        x.order(1, 0, 1000, 1, 9);
        due.is("13 an order below spot", 360, x.hope());
        x.order(1, 0, 1000, 0, 40);
        due.is("13 an order above spot", 360 + 210, x.hope());
        x.closed(0, 1, true);
        due.is("13 whatever is closed", 570, x.hope());
        x.move(0, 1);
        due.is("13 leaves the plan", 570, x.hope());
        due.is("13 leaves the plan", 1, x.taken(0));
        HarvestPlans great = new HarvestPlans(1);
        great.place(0);
        for (int c = 0; c < 6; c++) {
            great.cage(0);
            great.size(c, 0, 20000, 100000);
        }
        great.prices(10000, 9999);
        due.is("13 the greatest", 120000000000L, great.hope());
    }

    // 14
    private static void move() {
        HarvestPlans x = farm(new int[] {1, 1}, new int[] {1, 1});
        due.refuses("14 cage -1", Due.ARGUMENT, () -> x.move(-1, 0));
        due.refuses("14 cage 2", Due.ARGUMENT, () -> x.move(2, 0));
        due.refuses("14 week 2", Due.ARGUMENT, () -> x.move(0, 2));
        due.refuses("14 week -2", Due.ARGUMENT, () -> x.move(0, -2));
        due.refuses("14 no plan by refused moves", Due.STATE, () -> x.check());
        due.is("14 from no plan", NONE, x.move(0, 1));
        due.is("14 again", 1, x.move(0, 0));
        due.is("14 the other", NONE, x.move(1, 1));
        due.is("14 taken", 0, x.taken(0));
        due.is("14 taken", 1, x.taken(1));
        due.is("14 to none", 0, x.move(0, NONE));
        due.is("14 from none", NONE, x.move(0, NONE));
        due.is("14 the other stays", 1, x.taken(1));
        x.prices(0, 0);
        due.is("14 none taken where no plan was", NONE, x.move(0, 0));
        due.is("14 none taken where no plan was", NONE, x.taken(1));
        x.boat(1);
        x.prices(1, 0);
        x.run(5000);
        due.is("14 from the plan of a run", 0, x.move(0, NONE));
        due.is("14 the rest of that plan stays", 1, x.taken(1));
        due.is("14 another plan", 1, x.worth());
    }

    // 15
    private static void taken() {
        HarvestPlans x = farm(new int[] {1, 1}, new int[] {1, 1});
        due.refuses("15 cage -1", Due.ARGUMENT, () -> x.taken(-1));
        due.refuses("15 cage 2", Due.ARGUMENT, () -> x.taken(2));
        due.is("15 without a plan", NONE, x.taken(1));
        x.move(1, 1);
        due.is("15 by hand", 1, x.taken(1));
        due.is("15 in none", NONE, x.taken(0));
        x.plant(0, 100000000);
        due.is("15 without a plan again", NONE, x.taken(1));
    }

    // 16
    private static void check() {
        HarvestPlans x = farm(new int[] {3, 3}, new int[] {4, 0});
        due.refuses("16 no plan", Due.STATE, () -> x.check());
        x.boat(3);
        x.boat(4);
        x.plant(0, 7);
        x.move(0, 0);
        x.move(1, 0);
        due.is("16 plant just enough", 0, x.check());
        x.plant(0, 6);
        x.move(0, 0);
        due.is("16 one cage", 0, x.check());
        x.move(1, 0);
        due.is("16 plant", 1, x.check());
        x.move(0, 1);
        due.is("16 two weeks", 0, x.check());
        x.closed(0, 1, true);
        x.move(0, 1);
        due.is("16 closed", 13, x.check());
        x.move(0, NONE);
        x.move(1, 1);
        due.is("16 closed for a cage of no kilos too", 13, x.check());
        x.move(1, NONE);
        due.is("16 closed, nothing taken", 0, x.check());
        x.weather(0, 1, true);
        x.weather(1, 1, true);
        x.move(0, 1);
        due.is("16 boats before closed", 12, x.check());
        x.plant(1, 2);
        x.move(0, 1);
        due.is("16 plant before boats", 11, x.check());
        x.plant(0, 3);
        x.move(0, 1);
        x.move(1, 0);
        due.is("16 the first week", 1, x.check());
    }

    private static void checkBoats() {
        HarvestPlans x = farm(new int[] {5, 0}, new int[] {6, 0}, new int[] {0, 0});
        x.boat(6);
        x.boat(3);
        x.boat(2);
        x.move(0, 0);
        x.move(1, 0);
        due.is("16 two boats for one cage", 0, x.check());
        x.move(2, 0);
        due.is("16 no boat for no kilos", 0, x.check());
        x.weather(2, 0, true);
        x.move(0, 0);
        x.move(1, 0);
        due.is("16 a boat barred", 2, x.check());
        x.move(0, NONE);
        due.is("16 one cage left", 0, x.check());
        x.weather(2, 0, false);
        x.size(0, 0, 1000, 6);
        x.move(0, 0);
        x.move(1, 0);
        due.is("16 a boat carries from one cage alone", 2, x.check());
        x.size(0, 0, 1000, 2);
        x.size(1, 0, 1000, 3);
        x.size(2, 0, 1000, 6);
        x.move(0, 0);
        x.move(1, 0);
        x.move(2, 0);
        due.is("16 three cages, a boat for each", 0, x.check());
        x.size(2, 0, 1000, 7);
        x.move(2, 0);
        due.is("16 one cage for two boats and more", 0, x.check());
        x.move(0, 0);
        due.is("16 and a boat for another cage", 0, x.check());
        x.move(1, 0);
        due.is("16 but none for a third cage", 2, x.check());
        x.cage(0);
        for (int c = 0; c < 4; c++) {
            x.size(c, 0, 1000, 1);
        }
        for (int c = 0; c < 4; c++) {
            x.move(c, 0);
        }
        due.is("16 four cages, three boats", 2, x.check());
        x.move(3, NONE);
        due.is("16 three cages, three boats", 0, x.check());
    }

    private static void checkHeld() {
        HarvestPlans x = new HarvestPlans(3);
        x.place(10);
        x.place(10);
        x.cage(0);
        x.cage(0);
        x.cage(1);
        x.boat(100);
        for (int w = 0; w < 3; w++) {
            x.plant(w, 100);
            x.size(0, w, 1000, 4 + w);
            x.size(1, w, 1000, 5 + w);
            x.size(2, w, 1000, 10);
        }
        x.move(0, NONE);
        due.is("16 held too much from week 1 on", 14, x.check());
        x.move(0, 0);
        due.is("16 taken earlier", 0, x.check());
        x.move(0, 1);
        due.is("16 taken in that very week is still held", 14, x.check());
        x.size(1, 1, 1000, 5);
        x.move(0, 1);
        due.is("16 held just enough", 0, x.check());
        x.move(0, 2);
        due.is("16 taken too late", 24, x.check());
        x.move(0, 0);
        x.move(1, 0);
        due.is("16 boats before held", 2, x.check());
    }

    // 17
    private static void worth() {
        HarvestPlans x = farm(new int[] {10, 20}, new int[] {30, 40}, new int[] {50, 60});
        due.refuses("17 no plan", Due.STATE, () -> x.worth());
        x.prices(2, 1);
        x.move(0, 0);
        due.is("17 one taken", 20 + 40 + 60, x.worth());
        x.move(0, 1);
        due.is("17 in the other week", 40 + 40 + 60, x.worth());
        x.order(1, 1000, 1000, 15, 5);
        x.move(0, 1);
        due.is("17 an order and spot", 75 + 10 + 40 + 60, x.worth());
        x.move(0, 0);
        due.is("17 the order is of another week", 20 + 40 + 60, x.worth());
        x.order(1, 0, 20000, 100, 1);
        x.move(0, 1);
        due.is("17 an order below spot gets it all the same", 75 + 5 + 40 + 60, x.worth());
        x.order(1, 0, 999, 100, 9);
        x.order(1, 1001, 20000, 100, 9);
        x.move(0, 1);
        due.is("17 bounds", 75 + 5 + 40 + 60, x.worth());
        x.order(1, 0, 1000, 4, 6);
        x.move(0, 1);
        due.is("17 the greatest cents first", 24 + 75 + 1 + 40 + 60, x.worth());
        HarvestPlans great = new HarvestPlans(0);
        great.place(0);
        for (int c = 0; c < 6; c++) {
            great.cage(0);
            great.size(c, 0, 20000, 100000);
        }
        great.prices(10000, 10000);
        great.move(0, 0);
        due.is("17 the greatest, whatever is broken", 120000000000L, great.worth());
    }

    // 18
    private static void sold() {
        HarvestPlans x = new HarvestPlans(2);
        x.place(1000);
        for (int c = 0; c < 3; c++) {
            x.cage(0);
            x.size(c, 0, 1000 * (c + 1), 10);
            x.size(c, 1, 9000, 10);
        }
        x.order(0, 0, 2000, 15, 7);
        x.order(0, 2000, 3000, 100, 7);
        x.order(0, 1000, 1000, 3, 8);
        x.order(1, 0, 20000, 95, 1);
        due.refuses("18 no plan", Due.STATE, () -> x.sold(0));
        due.refuses("18 order -1 and no plan", Due.ARGUMENT, () -> x.sold(-1));
        due.refuses("18 order 4 and no plan", Due.ARGUMENT, () -> x.sold(4));
        x.move(0, NONE);
        due.is("18 none taken", 0, x.sold(0));
        for (int c = 0; c < 3; c++) {
            x.move(c, 0);
        }
        due.is("18 the greatest cents first", 3, x.sold(2));
        due.is("18 the lesser order first", 15, x.sold(0));
        // Order 0 has 7 of cage 0 and 8 of cage 1: 12 of cage 1 and 30 of cage 2 are left.
        due.is("18 the rest in bounds", 42, x.sold(1));
        due.is("18 an order of another week", 0, x.sold(3));
        due.is("18 worth of it", 24 + 105 + 294, x.worth());
        x.move(2, 1);
        due.is("18 without cage 2", 12, x.sold(1));
        due.is("18 cage 2 in week 1", 90, x.sold(3));
        x.move(0, 1);
        due.is("18 up to its kilograms", 95, x.sold(3));
        due.is("18 cage 0 is gone", 0, x.sold(2));
        due.refuses("18 order -1", Due.ARGUMENT, () -> x.sold(-1));
        due.refuses("18 order 4", Due.ARGUMENT, () -> x.sold(4));
    }

    private static HarvestPlans ready() {
        HarvestPlans x = farm(new int[] {1, 1});
        x.boat(1);
        x.order(0, 0, 20000, 1, 1);
        x.move(0, 1);
        return x;
    }

    private static void leavesNoPlan(String call, HarvestPlans x) {
        due.is(call + ": taken", NONE, x.taken(0));
        due.refuses(call + ": check", Due.STATE, () -> x.check());
        due.refuses(call + ": worth", Due.STATE, () -> x.worth());
        due.refuses(call + ": sold", Due.STATE, () -> x.sold(0));
        due.is(call + ": move starts from none", NONE, x.move(0, 0));
    }

    /** Calls that change no value leave no plan either. */
    private static void changesLeaveNoPlan() {
        HarvestPlans x = ready();
        x.place(0);
        leavesNoPlan("2 place", x);
        x.closed(0, 0, false);
        leavesNoPlan("3 closed", x);
        x.cage(0);
        leavesNoPlan("4 cage", x);
        x.size(0, 0, 1000, 1);
        leavesNoPlan("5 size", x);
        x.boat(1);
        leavesNoPlan("6 boat", x);
        x.weather(0, 0, false);
        leavesNoPlan("7 weather", x);
        x.plant(0, 100000000);
        leavesNoPlan("8 plant", x);
        x.order(0, 0, 1, 1, 1);
        leavesNoPlan("9 order", x);
        x.prices(0, 0);
        leavesNoPlan("10 prices", x);
    }

    private static void refusedCallsChangeNothing() {
        HarvestPlans x = ready();
        due.refuses("2 place", Due.ARGUMENT, () -> x.place(-1));
        due.refuses("3 closed", Due.ARGUMENT, () -> x.closed(0, 2, true));
        due.refuses("4 cage", Due.ARGUMENT, () -> x.cage(1));
        due.refuses("5 size", Due.ARGUMENT, () -> x.size(0, 0, 1, -1));
        due.refuses("6 boat", Due.ARGUMENT, () -> x.boat(-1));
        due.refuses("7 weather", Due.ARGUMENT, () -> x.weather(0, 2, true));
        due.refuses("8 plant", Due.ARGUMENT, () -> x.plant(0, -1));
        due.refuses("9 order", Due.ARGUMENT, () -> x.order(0, 0, 0, 0, -1));
        due.refuses("10 prices", Due.ARGUMENT, () -> x.prices(5, -1));
        due.refuses("11 run", Due.ARGUMENT, () -> x.run(0));
        due.refuses("14 move", Due.ARGUMENT, () -> x.move(0, 2));
        due.is("a refused call leaves the plan", 1, x.taken(0));
        due.is("a refused call leaves the plan", 0, x.check());
        due.is("a refused call leaves the prices", 0, x.worth());
        due.is("a refused place is not counted", 1, x.place(0));
        due.is("a refused cage is not counted", 1, x.cage(1));
        due.is("a refused boat is not counted", 1, x.boat(0));
        due.is("a refused order is not counted", 1, x.order(0, 0, 0, 0, 0));
        due.is("a refused plant stays", 100000000, x.plant(0, 0));
    }
}
