/** Farms, and wrong numbers, that the tests of the boundary cases start from. */
final class Farms {
    static final int NONE = HarvestPlans.NONE;
    static final int LOW = Integer.MIN_VALUE;
    static final int HIGH = Integer.MAX_VALUE;
    static final int MOST_KILOS = 100000000;
    static final int MOST_GRAMS = 20000;
    static final int MOST_FISH = 100000;
    static final int MOST_CENTS = 10000;
    /** What a cage of the most grams and the most fish weighs. */
    static final int GREATEST_CAGE = 2000000;

    private Farms() {
    }

    /** Numbers that are out of the bounds 0 .. most, the nearest ones among them. */
    static int[] outside(int most) {
        return new int[] {-1, -2, LOW, most + 1, most + 2, HIGH};
    }

    /** One place and one plant for all; a cage for each row of kilos by weeks, of fish of 1000 grams; no boats. */
    static HarvestPlans withoutBoats(int[]... kilosByWeek) {
        int weeks = kilosByWeek[0].length;
        HarvestPlans x = new HarvestPlans(weeks);
        x.place(MOST_KILOS);
        for (int c = 0; c < kilosByWeek.length; c++) {
            x.cage(0);
            for (int w = 0; w < weeks; w++) {
                x.size(c, w, 1000, kilosByWeek[c][w]);
            }
        }
        for (int w = 0; w < weeks; w++) {
            x.plant(w, MOST_KILOS);
        }
        return x;
    }

    /** The same with three boats for all, so that three cages may be taken in a week. */
    static HarvestPlans of(int[]... kilosByWeek) {
        HarvestPlans x = withoutBoats(kilosByWeek);
        for (int b = 0; b < 3; b++) {
            x.boat(MOST_KILOS);
        }
        return x;
    }

    static int[] kilos(int... byWeek) {
        return byWeek;
    }

    /** As many as there may be of everything, each of them somewhat different. */
    static HarvestPlans full(int weeks) {
        HarvestPlans x = new HarvestPlans(weeks);
        for (int p = 0; p < 4; p++) {
            x.place(20 + p);
        }
        for (int c = 0; c < 6; c++) {
            x.cage(c % 4);
            for (int w = 0; w < weeks; w++) {
                x.size(c, w, 1000 + 100 * c, 3 + c + w);
            }
        }
        for (int b = 0; b < 3; b++) {
            x.boat(9 + b);
            x.weather(b, b % weeks, true);
        }
        for (int w = 0; w < weeks; w++) {
            x.plant(w, 15 + w);
            x.closed(w % 4, w, true);
        }
        for (int o = 0; o < 6; o++) {
            x.order(o % weeks, 1000, 1100 + 100 * o, 5 + o, 10 + o);
        }
        x.prices(7, 3);
        return x;
    }

    /** A farm of the greatest cages there may be, all at one place, in one week. */
    static HarvestPlans greatest(int most, int plant) {
        HarvestPlans x = new HarvestPlans(1);
        x.place(most);
        for (int c = 0; c < 6; c++) {
            x.cage(0);
            x.size(c, 0, MOST_GRAMS, MOST_FISH);
        }
        x.plant(0, plant);
        return x;
    }
}
