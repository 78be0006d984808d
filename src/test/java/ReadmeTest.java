/** The example of README.md answers what stands behind it there. */
public final class ReadmeTest {
    public static void main(String[] args) {
        Due due = new Due("ReadmeTest");
        HarvestPlans plans = new HarvestPlans(2);
        int bay = plans.place(5000);
        int cage = plans.cage(bay);
        plans.size(cage, 0, 1000, 900);
        plans.size(cage, 1, 1300, 880);
        plans.boat(1200);
        plans.plant(0, 2000);
        plans.plant(1, 2000);
        int order = plans.order(1, 1200, 1500, 800, 450);
        plans.prices(300, 100);
        due.is("run", 0, plans.run(5000));
        due.is("taken", 1, plans.taken(cage));
        due.is("worth", 463200, plans.worth());
        due.is("sold", 800, plans.sold(order));
        due.is("move", 1, plans.move(cage, 0));
        due.is("check", 0, plans.check());
        due.is("worth", 270000, plans.worth());
        due.end();
    }
}
