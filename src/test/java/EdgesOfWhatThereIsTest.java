/** The boundary cases of the promises 1 to 10, each under the document's words. */
public final class EdgesOfWhatThereIsTest {
    private static final int NONE = Farms.NONE;
    private static final int LOW = Farms.LOW;
    private static final int HIGH = Farms.HIGH;

    private static Due due;

    public static void main(String[] args) {
        due = new Due("EdgesOfWhatThereIsTest");
        fewAndManyWeeks();
        nothingAtFirst();
        noPlanAtFirst();
        weeksOfEachCall();
        mostOfAPlace();
        placesAreFull();
        placesThatAreNot();
        closedAtFirst();
        closedByPlaceAndWeek();
        cagesAreFull();
        cagesThatAreNot();
        cagesAtPlaces();
        sizesAtFirst();
        sizesRoundedDown();
        gramsAndFish();
        sizesByCageAndWeek();
        loadOfABoat();
        boatsAreFull();
        boatsThatAreNot();
        barredByBoatAndWeek();
        plantAtFirst();
        plantOfAWeek();
        plantByWeek();
        gramsOfAnOrder();
        leastAndMostOfAnOrder();
        kilosAndCentsOfAnOrder();
        ordersAreFull();
        ordersThatAreNot();
        pricesAtFirst();
        pricesInBounds();
        due.end();
    }

    // ---- 1

    private static void fewAndManyWeeks() {
        due.of("W is weeks (below 1 counts as 1, above 8 as 8)");
        int[] told = {LOW, -8, -1, 0, 1, 2, 3, 4, 5, 6, 7, 8, 9, 16, HIGH};
        int[] want = {1, 1, 1, 1, 1, 2, 3, 4, 5, 6, 7, 8, 8, 8, 8};
        for (int i = 0; i < told.length; i++) {
            HarvestPlans x = new HarvestPlans(told[i]);
            int weeks = want[i];
            due.is("the last week of " + told[i], 0, x.plant(weeks - 1, 1));
            due.refuses("a week behind the last of " + told[i], Due.ARGUMENT, () -> x.plant(weeks, 1));
        }
    }

    private static void nothingAtFirst() {
        due.of("no places, cages, boats, orders");
        HarvestPlans x = new HarvestPlans(8);
        due.refuses("no place to close", Due.ARGUMENT, () -> x.closed(0, 0, true));
        due.refuses("no place for a cage", Due.ARGUMENT, () -> x.cage(0));
        due.refuses("no cage to size", Due.ARGUMENT, () -> x.size(0, 0, 0, 0));
        due.refuses("no cage to move", Due.ARGUMENT, () -> x.move(0, 0));
        due.refuses("no cage to move to none", Due.ARGUMENT, () -> x.move(0, NONE));
        due.refuses("no cage taken", Due.ARGUMENT, () -> x.taken(0));
        due.refuses("no boat", Due.ARGUMENT, () -> x.weather(0, 0, true));
        due.refuses("no order", Due.ARGUMENT, () -> x.sold(0));
        due.is("hope of no cages", 0, x.hope());
    }

    private static void noPlanAtFirst() {
        due.of("no plan at hand");
        HarvestPlans x = new HarvestPlans(8);
        due.refuses("check", Due.STATE, () -> x.check());
        due.refuses("worth", Due.STATE, () -> x.worth());
    }

    private static void weeksOfEachCall() {
        due.of("WEEKS are 0 .. W - 1");
        for (int weeks = 1; weeks <= 8; weeks++) {
            HarvestPlans x = Farms.full(weeks);
            for (int wrong : Farms.outside(weeks - 1)) {
                String told = wrong + " of " + weeks;
                due.refuses("closed " + told, Due.ARGUMENT, () -> x.closed(0, wrong, true));
                due.refuses("size " + told, Due.ARGUMENT, () -> x.size(0, wrong, 1, 1));
                due.refuses("weather " + told, Due.ARGUMENT, () -> x.weather(0, wrong, true));
                due.refuses("plant " + told, Due.ARGUMENT, () -> x.plant(wrong, 1));
                due.refuses("order " + told, Due.ARGUMENT, () -> x.order(wrong, 0, 1, 1, 1));
                if (wrong != NONE) {
                    due.refuses("move " + told, Due.ARGUMENT, () -> x.move(0, wrong));
                }
            }
            eachCallInAWeek(0, weeks);
            eachCallInAWeek(weeks - 1, weeks);
        }
    }

    private static void eachCallInAWeek(int week, int weeks) {
        HarvestPlans x = new HarvestPlans(weeks);
        x.place(10);
        x.cage(0);
        x.boat(10);
        due.is("plant", 0, x.plant(week, 10));
        due.is("size", 10, x.size(0, week, 1000, 10));
        due.is("closed", false, x.closed(0, week, true));
        due.is("weather", false, x.weather(0, week, true));
        due.is("order", 0, x.order(week, 1000, 1000, 10, 2));
        due.is("move", NONE, x.move(0, week));
        due.is("taken", week, x.taken(0));
        due.is("sold", 10, x.sold(0));
        due.is("barred before closed", 10 * week + 2, x.check());
        due.is("closed it was", true, x.closed(0, week, false));
        due.is("barred it was", true, x.weather(0, week, false));
        x.move(0, week);
        due.is("kept", 0, x.check());
    }

    // ---- 2

    private static void mostOfAPlace() {
        due.of("A place with its MOST (0 .. 100000000): its number.");
        HarvestPlans x = new HarvestPlans(1);
        for (int wrong : Farms.outside(Farms.MOST_KILOS)) {
            due.refuses("place of " + wrong, Due.ARGUMENT, () -> x.place(wrong));
        }
        due.is("the least", 0, x.place(0));
        due.is("the greatest", 1, x.place(Farms.MOST_KILOS));
        due.is("one", 2, x.place(1));
        int[] cageAt = {0, 1, 2};
        int[] holds = {0, 2000000, 1};
        for (int p = 0; p < 3; p++) {
            x.cage(cageAt[p]);
        }
        x.size(1, 0, Farms.MOST_GRAMS, Farms.MOST_FISH);
        x.size(2, 0, 1000, holds[2]);
        x.move(0, NONE);
        due.is("each place holds its own", 0, x.check());
        x.size(2, 0, 1000, holds[2] + 1);
        x.move(0, NONE);
        due.is("one above one", 4, x.check());
        x.size(2, 0, 1000, holds[2]);
        x.size(0, 0, 1000, 1);
        x.move(0, NONE);
        due.is("one above none", 4, x.check());
    }

    private static void placesAreFull() {
        due.of("PLACES are 0 .. 3, as they come; illegal state: there are 4.");
        HarvestPlans x = new HarvestPlans(1);
        for (int p = 0; p < 4; p++) {
            due.is("number", p, x.place(9 - p));
        }
        for (int again = 0; again < 3; again++) {
            due.refuses("a fifth", Due.STATE, () -> x.place(0));
        }
        due.refuses("no fifth place", Due.ARGUMENT, () -> x.closed(4, 0, true));
        due.refuses("no cage at a fifth place", Due.ARGUMENT, () -> x.cage(4));
        due.is("the fourth stands", 0, x.cage(3));
    }

    private static void placesThatAreNot() {
        due.of("illegal argument: there is no such place");
        HarvestPlans x = new HarvestPlans(1);
        for (int count = 0; count <= 4; count++) {
            for (int wrong : Farms.outside(count - 1)) {
                due.refuses("closed " + wrong, Due.ARGUMENT, () -> x.closed(wrong, 0, true));
                due.refuses("cage at " + wrong, Due.ARGUMENT, () -> x.cage(wrong));
            }
            if (count < 4) {
                x.place(1);
                due.is("the latest is there", false, x.closed(count, 0, false));
            }
        }
    }

    // ---- 3

    private static void closedAtFirst() {
        due.of("CLOSED in some weeks (in none at first)");
        HarvestPlans x = new HarvestPlans(8);
        for (int p = 0; p < 4; p++) {
            x.place(1);
            for (int w = 0; w < 8; w++) {
                due.is("place " + p + " week " + w, false, x.closed(p, w, true));
            }
        }
    }

    private static void closedByPlaceAndWeek() {
        due.of("A place is CLOSED in a week, or not: whether it was.");
        HarvestPlans x = new HarvestPlans(3);
        for (int p = 0; p < 4; p++) {
            x.place(1);
        }
        for (int i = 0; i < 12; i++) {
            due.is("open", false, x.closed(i / 3, i % 3, true));
            for (int j = 0; j < 12; j++) {
                due.is("one of twelve", j == i, x.closed(j / 3, j % 3, j == i));
            }
            due.is("closed", true, x.closed(i / 3, i % 3, true));
            due.is("closed twice is closed", true, x.closed(i / 3, i % 3, false));
            due.is("opened twice is open", false, x.closed(i / 3, i % 3, false));
        }
    }

    // ---- 4

    private static void cagesAreFull() {
        due.of("CAGES are 0 .. 5, as they come; illegal state: there are 6.");
        HarvestPlans x = new HarvestPlans(1);
        x.place(1);
        x.place(1);
        for (int c = 0; c < 6; c++) {
            due.is("number", c, x.cage(c % 2));
        }
        for (int again = 0; again < 3; again++) {
            due.refuses("a seventh", Due.STATE, () -> x.cage(1));
        }
        due.refuses("no seventh cage", Due.ARGUMENT, () -> x.taken(6));
        due.is("the sixth stands", NONE, x.move(5, 0));
    }

    private static void cagesThatAreNot() {
        due.of("illegal argument: there is no such cage");
        HarvestPlans x = new HarvestPlans(1);
        x.place(1);
        for (int count = 0; count <= 6; count++) {
            for (int wrong : Farms.outside(count - 1)) {
                due.refuses("size " + wrong, Due.ARGUMENT, () -> x.size(wrong, 0, 1, 1));
                due.refuses("move " + wrong, Due.ARGUMENT, () -> x.move(wrong, 0));
                due.refuses("move to none " + wrong, Due.ARGUMENT, () -> x.move(wrong, NONE));
                due.refuses("taken " + wrong, Due.ARGUMENT, () -> x.taken(wrong));
            }
            if (count < 6) {
                x.cage(0);
                due.is("the latest is there", NONE, x.taken(count));
            }
        }
    }

    private static void cagesAtPlaces() {
        due.of("CAGES are 0 .. 5, as they come, each at a place");
        for (int p = 0; p < 4; p++) {
            HarvestPlans x = new HarvestPlans(1);
            for (int q = 0; q < 4; q++) {
                x.place(10);
                x.closed(q, 0, q == p);
            }
            for (int c = 0; c < 4; c++) {
                x.cage(3 - c);
            }
            for (int c = 0; c < 4; c++) {
                x.move(c, 0);
                due.is("cage " + c + ", closed place " + p, 3 - c == p ? 3 : 0, x.check());
                x.move(c, NONE);
            }
        }
    }

    // ---- 5

    private static void sizesAtFirst() {
        due.of("with GRAMS (of a fish) and FISH for each week (0 and 0 at first)");
        HarvestPlans x = new HarvestPlans(8);
        x.place(0);
        x.prices(Farms.MOST_CENTS, Farms.MOST_CENTS);
        for (int c = 0; c < 6; c++) {
            x.cage(0);
        }
        due.is("hope", 0, x.hope());
        for (int c = 0; c < 6; c++) {
            for (int w = 0; w < 8; w++) {
                x.move(c, w);
                due.is("worth", 0, x.worth());
                due.is("no kilos need no boat, no plant and no place", 0, x.check());
            }
        }
    }

    private static void sizesRoundedDown() {
        due.of("its KILOS in a week are GRAMS times FISH by 1000, rounded down");
        HarvestPlans x = new HarvestPlans(1);
        x.place(0);
        x.cage(0);
        int[][] rows = {{1, 999, 0}, {1, 1000, 1}, {1, 1001, 1}, {1, 1999, 1}, {1, 2000, 2}, {999, 1, 0}, {1000, 1, 1},
            {1999, 1, 1}, {3, 333, 0}, {3, 334, 1}, {19999, 100000, 1999900}, {20000, 99999, 1999980},
            {19999, 99999, 1999880}, {20000, 100000, 2000000}};
        x.prices(1, 0);
        for (int[] row : rows) {
            due.is(row[0] + " times " + row[1], row[2], x.size(0, 0, row[0], row[1]));
            x.move(0, 0);
            due.is("worth of it", row[2], x.worth());
        }
    }

    private static void gramsAndFish() {
        due.of("A cage's GRAMS (0 .. 20000) and FISH (0 .. 100000) in a week: its KILOS then.");
        HarvestPlans x = new HarvestPlans(1);
        x.place(0);
        x.cage(0);
        for (int wrong : Farms.outside(Farms.MOST_GRAMS)) {
            due.refuses("grams " + wrong, Due.ARGUMENT, () -> x.size(0, 0, wrong, 1));
        }
        for (int wrong : Farms.outside(Farms.MOST_FISH)) {
            due.refuses("fish " + wrong, Due.ARGUMENT, () -> x.size(0, 0, 1, wrong));
        }
        due.refuses("as many fish as grams may not be", Due.ARGUMENT, () -> x.size(0, 0, Farms.MOST_FISH, 1));
        due.is("none of both", 0, x.size(0, 0, 0, 0));
        due.is("no grams", 0, x.size(0, 0, 0, Farms.MOST_FISH));
        due.is("no fish", 0, x.size(0, 0, Farms.MOST_GRAMS, 0));
        due.is("the most grams", 20, x.size(0, 0, Farms.MOST_GRAMS, 1));
        due.is("the most fish", 100, x.size(0, 0, 1, Farms.MOST_FISH));
        due.is("the most of both", Farms.GREATEST_CAGE, x.size(0, 0, Farms.MOST_GRAMS, Farms.MOST_FISH));
    }

    private static void sizesByCageAndWeek() {
        due.of("its KILOS then: of that cage in that week alone, the latest told");
        HarvestPlans x = new HarvestPlans(3);
        x.place(0);
        x.cage(0);
        x.cage(0);
        x.prices(1, 0);
        x.size(1, 1, 1000, 77);
        due.is("told again", 5, x.size(1, 1, 1000, 5));
        for (int c = 0; c < 2; c++) {
            for (int w = 0; w < 3; w++) {
                x.move(c, w);
                due.is("cage " + c + " week " + w, c == 1 && w == 1 ? 5 : 0, x.worth());
            }
            x.move(c, NONE);
        }
    }

    // ---- 6 and 7

    private static void loadOfABoat() {
        due.of("A boat with its LOAD (0 .. 100000000): its number.");
        HarvestPlans x = Farms.withoutBoats(Farms.kilos(1));
        for (int wrong : Farms.outside(Farms.MOST_KILOS)) {
            due.refuses("boat of " + wrong, Due.ARGUMENT, () -> x.boat(wrong));
        }
        due.is("the least", 0, x.boat(0));
        x.move(0, 0);
        due.is("a boat of no load carries nothing", 2, x.check());
        due.is("the greatest", 1, x.boat(Farms.MOST_KILOS));
        x.size(0, 0, Farms.MOST_GRAMS, Farms.MOST_FISH);
        x.move(0, 0);
        due.is("the greatest carries the greatest cage", 0, x.check());
    }

    private static void boatsAreFull() {
        due.of("BOATS are 0 .. 2, as they come; illegal state: there are 3.");
        HarvestPlans x = new HarvestPlans(1);
        for (int b = 0; b < 3; b++) {
            due.is("number", b, x.boat(9 - b));
        }
        for (int again = 0; again < 3; again++) {
            due.refuses("a fourth", Due.STATE, () -> x.boat(0));
        }
        due.refuses("no fourth boat", Due.ARGUMENT, () -> x.weather(3, 0, true));
        due.is("the third stands", false, x.weather(2, 0, true));
    }

    private static void boatsThatAreNot() {
        due.of("illegal argument: there is no such boat");
        HarvestPlans x = new HarvestPlans(1);
        for (int count = 0; count <= 3; count++) {
            for (int wrong : Farms.outside(count - 1)) {
                due.refuses("weather " + wrong, Due.ARGUMENT, () -> x.weather(wrong, 0, true));
            }
            if (count < 3) {
                x.boat(1);
                due.is("the latest is there", false, x.weather(count, 0, false));
            }
        }
    }

    private static void barredByBoatAndWeek() {
        due.of("A boat is barred in a week by weather, or not: whether it was. (in none at first)");
        HarvestPlans x = new HarvestPlans(4);
        for (int b = 0; b < 3; b++) {
            x.boat(1);
        }
        for (int i = 0; i < 12; i++) {
            due.is("not barred", false, x.weather(i / 4, i % 4, true));
            for (int j = 0; j < 12; j++) {
                due.is("one of twelve", j == i, x.weather(j / 4, j % 4, j == i));
            }
            due.is("barred", true, x.weather(i / 4, i % 4, true));
            due.is("barred twice is barred", true, x.weather(i / 4, i % 4, false));
            due.is("freed twice is free", false, x.weather(i / 4, i % 4, false));
        }
    }

    // ---- 8

    private static void plantAtFirst() {
        due.of("THE PLANT has kilograms for each week (0 at first)");
        for (int weeks = 1; weeks <= 8; weeks++) {
            HarvestPlans x = new HarvestPlans(weeks);
            x.place(1);
            x.cage(0);
            x.boat(1);
            for (int w = 0; w < weeks; w++) {
                x.size(0, w, 1000, 1);
            }
            for (int w = 0; w < weeks; w++) {
                x.move(0, w);
                due.is("takes nothing in week " + w, 10 * w + 1, x.check());
            }
            for (int w = 0; w < weeks; w++) {
                due.is("was", 0, x.plant(w, 1));
            }
        }
    }

    private static void plantOfAWeek() {
        due.of("What THE PLANT can take in a week (0 .. 100000000): what it was.");
        HarvestPlans x = new HarvestPlans(1);
        for (int wrong : Farms.outside(Farms.MOST_KILOS)) {
            due.refuses("kilos " + wrong, Due.ARGUMENT, () -> x.plant(0, wrong));
        }
        due.is("nothing", 0, x.plant(0, Farms.MOST_KILOS));
        due.is("the greatest", Farms.MOST_KILOS, x.plant(0, Farms.MOST_KILOS));
        due.is("told twice", Farms.MOST_KILOS, x.plant(0, 0));
        due.is("the least", 0, x.plant(0, 1));
        due.is("one", 1, x.plant(0, 0));
    }

    private static void plantByWeek() {
        due.of("THE PLANT has kilograms for each week");
        HarvestPlans x = new HarvestPlans(8);
        for (int w = 0; w < 8; w++) {
            x.plant(w, 100 + w);
        }
        for (int w = 0; w < 8; w++) {
            due.is("week " + w, 100 + w, x.plant(w, 0));
        }
    }

    // ---- 9

    private static void gramsOfAnOrder() {
        due.of("An order (grams 0 .. 20000)");
        HarvestPlans x = new HarvestPlans(1);
        for (int wrong : Farms.outside(Farms.MOST_GRAMS)) {
            due.refuses("both " + wrong, Due.ARGUMENT, () -> x.order(0, wrong, wrong, 1, 1));
        }
        due.refuses("least -1", Due.ARGUMENT, () -> x.order(0, -1, 5, 1, 1));
        due.refuses("least far below", Due.ARGUMENT, () -> x.order(0, LOW, 5, 1, 1));
        due.refuses("most 20001", Due.ARGUMENT, () -> x.order(0, 5, 20001, 1, 1));
        due.refuses("most far above", Due.ARGUMENT, () -> x.order(0, 5, HIGH, 1, 1));
        due.is("all grams", 0, x.order(0, 0, 20000, 1, 1));
    }

    private static void leastAndMostOfAnOrder() {
        due.of("the least not above the most");
        HarvestPlans x = new HarvestPlans(1);
        due.refuses("one above", Due.ARGUMENT, () -> x.order(0, 6, 5, 1, 1));
        due.refuses("one above none", Due.ARGUMENT, () -> x.order(0, 1, 0, 1, 1));
        due.refuses("the greatest above the next", Due.ARGUMENT, () -> x.order(0, 20000, 19999, 1, 1));
        due.refuses("far above", Due.ARGUMENT, () -> x.order(0, 20000, 0, 1, 1));
        due.is("alike", 0, x.order(0, 5, 5, 1, 1));
        due.is("both none", 1, x.order(0, 0, 0, 1, 1));
        due.is("both the greatest", 2, x.order(0, 20000, 20000, 1, 1));
        due.is("one below", 3, x.order(0, 5, 6, 1, 1));
    }

    private static void kilosAndCentsOfAnOrder() {
        due.of("kilos 0 .. 100000000; cents 0 .. 10000");
        HarvestPlans x = new HarvestPlans(1);
        for (int wrong : Farms.outside(Farms.MOST_KILOS)) {
            due.refuses("kilos " + wrong, Due.ARGUMENT, () -> x.order(0, 0, 1, wrong, 1));
        }
        for (int wrong : Farms.outside(Farms.MOST_CENTS)) {
            due.refuses("cents " + wrong, Due.ARGUMENT, () -> x.order(0, 0, 1, 1, wrong));
        }
        due.is("the least kilos", 0, x.order(0, 0, 1, 0, 1));
        due.is("the greatest kilos", 1, x.order(0, 0, 1, Farms.MOST_KILOS, 1));
        due.is("the least cents", 2, x.order(0, 0, 1, 1, 0));
        due.is("the greatest cents", 3, x.order(0, 0, 1, 1, Farms.MOST_CENTS));
    }

    private static void ordersAreFull() {
        due.of("ORDERS are 0 .. 5, as they come; illegal state: there are 6.");
        HarvestPlans x = Farms.withoutBoats(Farms.kilos(100));
        for (int o = 0; o < 6; o++) {
            due.is("number", o, x.order(0, 1000, 1000, o + 1, o % 3));
        }
        for (int again = 0; again < 3; again++) {
            due.refuses("a seventh", Due.STATE, () -> x.order(0, 0, 0, 0, 0));
        }
        x.move(0, 0);
        for (int o = 0; o < 6; o++) {
            due.is("order " + o + " gets its own", o + 1, x.sold(o));
        }
        due.refuses("no seventh order", Due.ARGUMENT, () -> x.sold(6));
    }

    private static void ordersThatAreNot() {
        due.of("illegal argument: there is no such order");
        HarvestPlans x = Farms.withoutBoats(Farms.kilos(1));
        for (int count = 0; count <= 6; count++) {
            x.move(0, 0);
            for (int wrong : Farms.outside(count - 1)) {
                due.refuses("sold " + wrong, Due.ARGUMENT, () -> x.sold(wrong));
            }
            if (count < 6) {
                x.order(0, 0, 999, 1, 1);
                x.move(0, 0);
                due.is("the latest is there", 0, x.sold(count));
            }
        }
    }

    // ---- 10

    private static void pricesAtFirst() {
        due.of("SPOT and KEEP are cents for a kilogram (0 at first)");
        HarvestPlans x = Farms.withoutBoats(Farms.kilos(1), Farms.kilos(1));
        due.is("hope", 0, x.hope());
        x.move(0, 0);
        due.is("worth", 0, x.worth());
    }

    private static void pricesInBounds() {
        due.of("SPOT and KEEP (0 .. 10000).");
        HarvestPlans x = Farms.withoutBoats(Farms.kilos(1), Farms.kilos(3));
        int[][] rows = {{0, 0, 0}, {10000, 0, 10000}, {0, 10000, 30000}, {10000, 10000, 40000}, {1, 2, 7}};
        for (int[] row : rows) {
            x.prices(row[0], row[1]);
            x.move(0, 0);
            due.is(row[0] + " and " + row[1], row[2], x.worth());
        }
        for (int wrong : Farms.outside(Farms.MOST_CENTS)) {
            due.refuses("spot " + wrong, Due.ARGUMENT, () -> x.prices(wrong, 5));
            due.refuses("keep " + wrong, Due.ARGUMENT, () -> x.prices(5, wrong));
            due.refuses("both " + wrong, Due.ARGUMENT, () -> x.prices(wrong, wrong));
        }
        due.is("neither is changed where one is wrong", 7, x.worth());
    }
}
