/** One method for each promise of the document: ordinary inputs, the edges that it names, wrong inputs. */
public final class PromiseTest {
    private static final int UNKNOWN = -1;
    private static final int BAD_VALUE = -2;
    private static final int FULL = -3;
    private static final int NOT_POSSIBLE = -4;
    private static final int NONE = -5;

    private static int promise;
    private static int checks;
    private static int wrong;

    private static void due(String call, int got, int want) {
        checks++;
        if (got != want) {
            wrong++;
            System.out.println("promise " + promise + ": " + call + " answered " + got + ", due is " + want);
        }
    }

    public static void main(String[] args) {
        promise = 1;
        newObject();
        constants();
        promise = 2;
        addSite();
        promise = 3;
        addCustomer();
        promise = 4;
        setPrice();
        promise = 5;
        setDemand();
        promise = 6;
        setRoute();
        promise = 7;
        setMost();
        promise = 8;
        exclude();
        promise = 9;
        step();
        stepWhenFull();
        stepImprovesBest();
        stepKeepsBest();
        promise = 10;
        solve();
        solveWhenFull();
        promise = 11;
        readCut();
        faultsOfTexts();
        promise = 12;
        drop();
        promise = 13;
        dropLoose();
        promise = 14;
        type();
        promise = 15;
        clearText();
        promise = 16;
        undo();
        promise = 17;
        keep();
        promise = 18;
        restore();
        promise = 19;
        judge();
        promise = 20;
        plan();
        promise = 21;
        serves();
        promise = 22;
        cut();
        promise = 23;
        weight();
        promise = 24;
        value();
        promise = 25;
        master();
        promise = 26;
        byAll();
        promise = 27;
        count();
        System.out.println(checks + " checks, " + wrong + " wrong");
        if (wrong != 0) {
            System.exit(1);
        }
    }

    // ---- what the tests start from

    /** Sites 0 (10), 1 (4), 2 (30); customers 0 (2), 1 (5); 0 reaches 0 at 3, 1 reaches 1 at 2, 2 both at 1. */
    private static SiteCuts threeSites() {
        SiteCuts x = new SiteCuts();
        x.addSite(10);
        x.addSite(4);
        x.addSite(30);
        x.addCustomer(2);
        x.addCustomer(5);
        x.setRoute(0, 0, 3);
        x.setRoute(1, 1, 2);
        x.setRoute(2, 0, 1);
        x.setRoute(2, 1, 1);
        return x;
    }

    /** One customer of demand 1 that site 0 (price 5) and site 1 (price 5) reach, both at 9. */
    private static SiteCuts twins() {
        SiteCuts x = new SiteCuts();
        x.addCustomer(1);
        x.addSite(5);
        x.addSite(5);
        x.setRoute(0, 0, 9);
        x.setRoute(1, 0, 9);
        return x;
    }

    private static void typeAll(SiteCuts x, String text) {
        x.clearText();
        for (int i = 0; i < text.length(); i++) {
            x.type(text.charAt(i));
        }
    }

    private static int read(SiteCuts x, String text) {
        typeAll(x, text);
        return x.readCut();
    }

    /** Seven sites of one price and eight customers whom all of them reach, at prices that are mixed up. */
    private static SiteCuts hard() {
        SiteCuts x = new SiteCuts();
        for (int i = 0; i < 7; i++) {
            x.addSite(8);
        }
        for (int i = 0; i < 8; i++) {
            x.addCustomer(1);
        }
        for (int site = 0; site < 7; site++) {
            for (int customer = 0; customer < 8; customer++) {
                x.setRoute(site, customer, (site * 5 + customer * 3 + site * customer) % 11 * 9);
            }
        }
        return x;
    }

    // ---- promises

    private static void newObject() {
        SiteCuts x = new SiteCuts();
        for (int what = 0; what <= 9; what++) {
            due("count(" + what + ")", x.count(what), what == 3 ? 7 : 0);
        }
        due("master(0)", x.master(0), 0);
        due("master(1)", x.master(1), 0);
        due("master(2)", x.master(2), NONE);
        due("byAll(0)", x.byAll(0), 0);
        due("undo()", x.undo(), NONE);
        due("restore()", x.restore(), NONE);
        due("judge(0)", x.judge(0), 0);
        due("judge(1)", x.judge(1), BAD_VALUE);
        SiteCuts y = new SiteCuts();
        y.addSite(3);
        due("count(0) of another object", x.count(0), 0);
    }

    private static void constants() {
        due("UNKNOWN", SiteCuts.UNKNOWN, UNKNOWN);
        due("BAD_VALUE", SiteCuts.BAD_VALUE, BAD_VALUE);
        due("FULL", SiteCuts.FULL, FULL);
        due("NOT_POSSIBLE", SiteCuts.NOT_POSSIBLE, NOT_POSSIBLE);
        due("NONE", SiteCuts.NONE, NONE);
    }

    private static void addSite() {
        SiteCuts x = new SiteCuts();
        x.addCustomer(1);
        due("addSite(-1)", x.addSite(-1), BAD_VALUE);
        due("addSite(1000)", x.addSite(1000), BAD_VALUE);
        due("addSite(least)", x.addSite(Integer.MIN_VALUE), BAD_VALUE);
        due("count(8) behind errors", x.count(8), 1);
        due("addSite(0)", x.addSite(0), 0);
        due("addSite(999)", x.addSite(999), 1);
        due("plan(1, 1)", x.plan(1, 1), 0);
        due("plan(3, 1)", x.plan(3, 1), 999);
        due("serves(3, 0), without routes", x.serves(3, 0), NONE);
        due("count(2)", x.count(2), 0);
        for (int site = 2; site < 7; site++) {
            due("addSite(7)", x.addSite(7), site);
        }
        due("addSite(1000) when there are 7", x.addSite(1000), BAD_VALUE);
        x.step();
        due("addSite(7) when there are 7", x.addSite(7), FULL);
        due("count(0)", x.count(0), 7);
        due("count(5), an error changes nothing", x.count(5), 1);
        due("judge(127)", x.judge(127), 3);
        due("judge(128)", x.judge(128), BAD_VALUE);

        SiteCuts y = twins();
        y.solve();
        due("addSite(1) with cuts", y.addSite(1), 2);
        due("count(5), cuts are dropped", y.count(5), 0);
        due("master(2), no best plan", y.master(2), NONE);
        due("count(7), steps stay", y.count(7), 3);
        due("undo()", y.undo(), 3);
        due("count(5) behind undo()", y.count(5), 2);
        due("master(2) behind undo()", y.master(2), 1);

        SiteCuts z = new SiteCuts();
        z.addCustomer(1);
        z.addSite(1);
        z.addSite(1);
        z.setRoute(1, 0, 5);
        z.undo();
        z.undo();
        due("addSite(2), again", z.addSite(2), 1);
        due("serves(2, 0), the new site is without routes", z.serves(2, 0), NONE);
        z.addSite(2);
        z.exclude(1, 2, true);
        z.undo();
        z.undo();
        z.addSite(2);
        due("exclude(2, 1, false), a new site excludes none", z.exclude(2, 1, false), NONE);
    }

    private static void addCustomer() {
        SiteCuts x = new SiteCuts();
        x.addSite(2);
        due("addCustomer(0)", x.addCustomer(0), BAD_VALUE);
        due("addCustomer(21)", x.addCustomer(21), BAD_VALUE);
        due("addCustomer(-5)", x.addCustomer(-5), BAD_VALUE);
        due("count(8) behind errors", x.count(8), 1);
        due("addCustomer(1)", x.addCustomer(1), 0);
        due("addCustomer(20)", x.addCustomer(20), 1);
        due("serves(1, 1), without routes", x.serves(1, 1), NONE);
        for (int customer = 2; customer < 8; customer++) {
            due("addCustomer(3)", x.addCustomer(3), customer);
        }
        due("addCustomer(0) when there are 8", x.addCustomer(0), BAD_VALUE);
        x.step();
        due("addCustomer(3) when there are 8", x.addCustomer(3), FULL);
        due("count(1)", x.count(1), 8);
        due("count(5), an error changes nothing", x.count(5), 1);
        for (int customer = 0; customer < 8; customer++) {
            x.setRoute(0, customer, 1);
        }
        due("plan(1, 2), all demands", x.plan(1, 2), 1 + 20 + 6 * 3);

        SiteCuts y = twins();
        y.solve();
        due("addCustomer(1) with cuts", y.addCustomer(1), 1);
        due("count(5), cuts are dropped", y.count(5), 0);
        due("master(3), no best plan", y.master(3), NONE);
        due("count(7), steps stay", y.count(7), 3);

        SiteCuts z = new SiteCuts();
        z.addSite(1);
        z.addCustomer(1);
        z.addCustomer(1);
        z.setRoute(0, 1, 5);
        z.undo();
        z.undo();
        z.addCustomer(1);
        due("serves(1, 1), the new customer is without routes", z.serves(1, 1), NONE);
    }

    private static void setPrice() {
        SiteCuts x = twins();
        x.solve();
        due("setPrice(-1, 5)", x.setPrice(-1, 5), UNKNOWN);
        due("setPrice(2, -1), the site first", x.setPrice(2, -1), UNKNOWN);
        due("setPrice(1, -1)", x.setPrice(1, -1), BAD_VALUE);
        due("setPrice(1, 1000)", x.setPrice(1, 1000), BAD_VALUE);
        due("setPrice(1, 5)", x.setPrice(1, 5), NONE);
        due("count(5), nothing is changed", x.count(5), 2);
        due("master(2), nothing is changed", x.master(2), 1);
        due("setPrice(1, 0)", x.setPrice(1, 0), 5);
        due("count(5), cuts are dropped", x.count(5), 0);
        due("master(2), no best plan", x.master(2), NONE);
        due("count(7), steps stay", x.count(7), 3);
        due("plan(3, 1)", x.plan(3, 1), 5);
        due("setPrice(1, 999)", x.setPrice(1, 999), 0);
        due("plan(3, 1)", x.plan(3, 1), 1004);
        x.undo();
        due("setPrice(1, 0) behind undo()", x.setPrice(1, 0), NONE);
    }

    private static void setDemand() {
        SiteCuts x = twins();
        x.solve();
        due("setDemand(-1, 1)", x.setDemand(-1, 1), UNKNOWN);
        due("setDemand(1, 0), the customer first", x.setDemand(1, 0), UNKNOWN);
        due("setDemand(0, 0)", x.setDemand(0, 0), BAD_VALUE);
        due("setDemand(0, 21)", x.setDemand(0, 21), BAD_VALUE);
        due("setDemand(0, 1)", x.setDemand(0, 1), NONE);
        due("count(5), nothing is changed", x.count(5), 2);
        due("master(2), nothing is changed", x.master(2), 1);
        due("setDemand(0, 20)", x.setDemand(0, 20), 1);
        due("count(5), cuts are dropped", x.count(5), 0);
        due("master(2), no best plan", x.master(2), NONE);
        due("count(7), steps stay", x.count(7), 3);
        due("plan(1, 2)", x.plan(1, 2), 180);
        due("setDemand(0, 1)", x.setDemand(0, 1), 20);
        x.undo();
        due("plan(1, 2) behind undo()", x.plan(1, 2), 180);
    }

    private static void setRoute() {
        SiteCuts x = twins();
        x.solve();
        due("setRoute(-1, 0, 1)", x.setRoute(-1, 0, 1), UNKNOWN);
        due("setRoute(2, 0, -1), the site first", x.setRoute(2, 0, -1), UNKNOWN);
        due("setRoute(0, -1, 1)", x.setRoute(0, -1, 1), UNKNOWN);
        due("setRoute(0, 1, 101), the customer first", x.setRoute(0, 1, 101), UNKNOWN);
        due("setRoute(0, 0, -1)", x.setRoute(0, 0, -1), BAD_VALUE);
        due("setRoute(0, 0, 101)", x.setRoute(0, 0, 101), BAD_VALUE);
        due("setRoute(0, 0, 9)", x.setRoute(0, 0, 9), NONE);
        due("count(5), nothing is changed", x.count(5), 2);
        due("master(2), nothing is changed", x.master(2), 1);
        due("setRoute(0, 0, 99)", x.setRoute(0, 0, 99), 9);
        due("count(5), cuts are dropped", x.count(5), 0);
        due("master(2), no best plan", x.master(2), NONE);
        due("count(7), steps stay", x.count(7), 3);
        due("plan(1, 2)", x.plan(1, 2), 99);
        due("setRoute(0, 0, 0)", x.setRoute(0, 0, 0), 99);
        due("plan(1, 2)", x.plan(1, 2), 0);
        due("count(2)", x.count(2), 2);
        due("setRoute(0, 0, 100)", x.setRoute(0, 0, 100), 0);
        due("count(2)", x.count(2), 1);
        due("setRoute(0, 0, 100), again", x.setRoute(0, 0, 100), NONE);
        due("setRoute(1, 0, 8)", x.setRoute(1, 0, 8), 9);
        x.undo();
        due("plan(2, 2) behind undo()", x.plan(2, 2), 9);
    }

    private static void setMost() {
        SiteCuts x = threeSites();
        x.solve();
        int cuts = x.count(5);
        due("setMost(0)", x.setMost(0), BAD_VALUE);
        due("setMost(8)", x.setMost(8), BAD_VALUE);
        due("setMost(7)", x.setMost(7), NONE);
        due("master(2), nothing is changed", x.master(2), 3);
        due("setMost(1)", x.setMost(1), 7);
        due("count(5), cuts stay", x.count(5), cuts);
        due("master(2), no best plan", x.master(2), NONE);
        due("judge(3)", x.judge(3), 1);
        due("master(0)", x.master(0), 4);
        due("setMost(2)", x.setMost(2), 1);
        due("judge(3)", x.judge(3), 0);
        due("judge(7)", x.judge(7), 1);
        due("undo()", x.undo(), 3);
        due("count(3)", x.count(3), 1);
    }

    private static void exclude() {
        SiteCuts x = threeSites();
        x.solve();
        int cuts = x.count(5);
        due("exclude(3, 3, true), the site first", x.exclude(3, 3, true), UNKNOWN);
        due("exclude(-1, 0, true)", x.exclude(-1, 0, true), UNKNOWN);
        due("exclude(0, 3, true)", x.exclude(0, 3, true), UNKNOWN);
        due("exclude(0, -1, true)", x.exclude(0, -1, true), UNKNOWN);
        due("exclude(1, 1, true)", x.exclude(1, 1, true), BAD_VALUE);
        due("exclude(1, 1, false)", x.exclude(1, 1, false), BAD_VALUE);
        due("exclude(0, 1, false)", x.exclude(0, 1, false), NONE);
        due("master(2), nothing is changed", x.master(2), 3);
        due("exclude(0, 1, true)", x.exclude(0, 1, true), 1);
        due("count(5), cuts stay", x.count(5), cuts);
        due("master(2), no best plan", x.master(2), NONE);
        due("exclude(1, 0, true), so already", x.exclude(1, 0, true), NONE);
        due("judge(3)", x.judge(3), 2);
        due("judge(7)", x.judge(7), 2);
        due("exclude(0, 2, true)", x.exclude(0, 2, true), 2);
        due("exclude(2, 1, true)", x.exclude(2, 1, true), 2);
        due("count(4)", x.count(4), 3);
        due("exclude(1, 0, false)", x.exclude(1, 0, false), 1);
        due("exclude(0, 2, false)", x.exclude(0, 2, false), 0);
        due("count(4)", x.count(4), 1);
        due("judge(3)", x.judge(3), 0);
        x.undo();
        due("count(4) behind undo()", x.count(4), 2);
    }

    private static void step() {
        SiteCuts x = new SiteCuts();
        due("step() without customers", x.step(), NOT_POSSIBLE);
        x.addSite(1);
        due("step() without customers", x.step(), NOT_POSSIBLE);
        due("count(7)", x.count(7), 0);
        due("count(8)", x.count(8), 1);
        x.addCustomer(1);
        due("step(), a ray", x.step(), 0);
        due("step(), no plan fulfils the ray", x.step(), NOT_POSSIBLE);
        due("count(7)", x.count(7), 1);
        due("count(8)", x.count(8), 3);

        SiteCuts y = threeSites();
        due("step(), the ray of 0", y.step(), 0);
        due("cut(0, 1)", y.cut(0, 1), 0);
        due("step(), the ray of 1", y.step(), 0);
        due("cut(1, 1)", y.cut(1, 1), 1);
        due("master(2)", y.master(2), NONE);
        due("step(), a price cut", y.step(), 1);
        due("master(2)", y.master(2), 3);
        due("cut(2, 0)", y.cut(2, 0), 1);
        due("cut(2, 2)", y.cut(2, 2), 16);
        due("weight(2, 0)", y.weight(2, 0), 0);
        due("weight(2, 1)", y.weight(2, 1), 0);
        due("weight(2, 2)", y.weight(2, 2), 9);
        due("step(), all is solved", y.step(), 2);
        due("count(5)", y.count(5), 3);
        due("count(7)", y.count(7), 4);
        due("step(), all is solved, an act", y.step(), 2);
        due("count(7)", y.count(7), 5);
        y.undo();
        due("count(7) behind undo()", y.count(7), 4);
        y.undo();
        due("count(7) behind undo()", y.count(7), 3);
        y.undo();
        due("count(5) behind undo()", y.count(5), 2);
        due("master(2) behind undo()", y.master(2), NONE);

        SiteCuts z = threeSites();
        z.setMost(1);
        z.exclude(0, 2, true);
        due("solve() with a most of 1", z.solve(), 3);
        due("master(2), the only allowed one", z.master(2), 4);
    }

    private static void stepWhenFull() {
        SiteCuts x = twins();
        typeAll(x, "0");
        for (int cut = 0; cut < 40; cut++) {
            x.readCut();
        }
        due("step(), a ray, when there are 40", x.step(), FULL);
        due("count(7)", x.count(7), 0);
        due("count(8)", x.count(8), 4);
        x.drop(0);
        due("step(), the 40th cut", x.step(), 0);
        due("step(), a price cut, when there are 40", x.step(), FULL);
        due("master(2), an error changes nothing", x.master(2), NONE);
        due("count(7)", x.count(7), 1);
        x.drop(0);
        due("step(), the 40th cut", x.step(), 1);
        due("step(), solved when there are 40", x.step(), 2);
        due("count(5)", x.count(5), 40);

        SiteCuts y = new SiteCuts();
        y.addCustomer(1);
        y.step();
        typeAll(y, "0");
        for (int cut = 1; cut < 40; cut++) {
            y.readCut();
        }
        due("step(), no plan, ahead of FULL", y.step(), NOT_POSSIBLE);
    }

    /** The plans that the steps look at get dearer on the way, and the best one stays. */
    private static void stepImprovesBest() {
        SiteCuts x = new SiteCuts();
        x.addCustomer(1);
        x.addSite(0);
        x.addSite(20);
        x.addSite(10);
        x.setRoute(0, 0, 99);
        x.setRoute(1, 0, 0);
        x.setRoute(2, 0, 60);
        due("step()", x.step(), 0);
        due("step()", x.step(), 1);
        due("master(2)", x.master(2), 1);
        due("master(3)", x.master(3), 99);
        due("master(0)", x.master(0), 2);
        due("step(), solved by the better plan", x.step(), 2);
        due("master(2)", x.master(2), 2);
        due("master(3)", x.master(3), 20);

        SiteCuts y = new SiteCuts();
        y.addCustomer(1);
        y.addSite(5);
        y.addSite(6);
        y.setRoute(0, 0, 4);
        y.setRoute(1, 0, 3);
        due("solve(), two plans of the same cost", y.solve(), 2);
        due("master(2)", y.master(2), 1);
        y.exclude(0, 1, true);
        y.setPrice(0, 0);
        due("setPrice(0, 5)", y.setPrice(0, 5), 0);
        due("step()", y.step(), 0);
        due("step()", y.step(), 1);
        due("master(0), the least number", y.master(0), 1);
        due("step()", y.step(), 2);
        due("master(2)", y.master(2), 1);
    }

    /** A master plan that costs as much as the best plan does not take its place. */
    private static void stepKeepsBest() {
        SiteCuts x = new SiteCuts();
        x.addCustomer(1);
        x.addCustomer(1);
        x.addSite(5);
        x.addSite(6);
        x.setRoute(0, 0, 4);
        x.setRoute(0, 1, 0);
        x.setRoute(1, 0, 0);
        x.setRoute(1, 1, 3);
        due("readCut()", read(x, "4,0"), 0);
        due("step(), a ray", x.step(), 0);
        due("master(0)", x.master(0), 2);
        due("step(), a price cut", x.step(), 1);
        due("master(2)", x.master(2), 2);
        due("master(0), of several the least number", x.master(0), 1);
        due("plan(1, 0)", x.plan(1, 0), 9);
        due("plan(2, 0)", x.plan(2, 0), 9);
        due("step(), all is solved", x.step(), 2);
        due("master(2), its cost is not less", x.master(2), 2);
    }

    private static void solve() {
        SiteCuts x = new SiteCuts();
        due("solve() without customers", x.solve(), NOT_POSSIBLE);
        x.addCustomer(1);
        due("solve(), a ray, then no plan", x.solve(), 1);
        due("count(6), what was added stays", x.count(6), 1);
        due("count(7)", x.count(7), 1);
        due("solve(), the first step is not possible", x.solve(), NOT_POSSIBLE);
        due("count(8)", x.count(8), 2);
        due("undo()", x.undo(), 1);
        due("count(5) behind undo()", x.count(5), 0);

        SiteCuts y = threeSites();
        due("solve()", y.solve(), 3);
        due("count(7)", y.count(7), 4);
        due("master(2)", y.master(2), 3);
        due("master(3)", y.master(3), 30);
        due("master(4)", y.master(4), 0);
        due("solve(), nothing is left", y.solve(), 0);
        due("count(7)", y.count(7), 5);
        due("undo()", y.undo(), 3);
        due("undo(), one act", y.undo(), 2);
        due("count(5)", y.count(5), 0);
        due("count(7)", y.count(7), 0);
        due("master(2)", y.master(2), NONE);

        SiteCuts z = hard();
        due("byAll(0)", z.byAll(0) >= 0 ? 1 : 0, 1);
        int answer = z.solve();
        due("solve() of a hard map adds cuts", answer > 2 ? 1 : 0, 1);
        due("its best cost is that of byAll", z.master(3), z.byAll(1));
        due("its cuts", z.count(5), answer);
        due("its steps", z.count(7), answer + 1);
        due("its gap", z.master(4), 0);
    }

    private static void solveWhenFull() {
        SiteCuts x = threeSites();
        typeAll(x, "0,0");
        for (int cut = 0; cut < 38; cut++) {
            x.readCut();
        }
        due("solve(), 41 would be needed", x.solve(), FULL);
        due("count(5), an error changes nothing", x.count(5), 38);
        due("count(6)", x.count(6), 0);
        due("count(7)", x.count(7), 0);
        due("master(2)", x.master(2), NONE);
        due("count(8)", x.count(8), 4);
        x.drop(0);
        due("solve(), just 40", x.solve(), 3);
        due("count(5)", x.count(5), 40);
        x.drop(39);
        x.readCut();
        due("solve(), the first step is FULL", x.solve(), FULL);
        due("count(7)", x.count(7), 4);
        due("master(2), it stays", x.master(2), 3);

        SiteCuts y = new SiteCuts();
        y.addCustomer(1);
        y.addCustomer(1);
        y.addSite(1);
        y.setRoute(0, 0, 1);
        typeAll(y, "0,0");
        for (int cut = 0; cut < 38; cut++) {
            y.readCut();
        }
        due("solve(), two rays, then no plan, with 40", y.solve(), 2);
        due("count(5)", y.count(5), 40);
        y.drop(0);
        due("solve(), the first step is not possible", y.solve(), NOT_POSSIBLE);

        SiteCuts z = fortyOne();
        due("solve() of a new map that needs more than 40", z.solve(), FULL);
        due("count(5)", z.count(5), 0);
        due("count(7)", z.count(7), 0);
        due("master(2)", z.master(2), NONE);
    }

    /** A map for which the steps need more than 40 cuts, found by looking. */
    private static SiteCuts fortyOne() {
        SiteCuts x = new SiteCuts();
        for (int price : FORTY_ONE_PRICES) {
            x.addSite(price);
        }
        for (int demand : FORTY_ONE_DEMANDS) {
            x.addCustomer(demand);
        }
        for (int site = 0; site < FORTY_ONE_ROUTES.length; site++) {
            for (int customer = 0; customer < FORTY_ONE_ROUTES[site].length; customer++) {
                x.setRoute(site, customer, FORTY_ONE_ROUTES[site][customer]);
            }
        }
        return x;
    }

    private static final int[] FORTY_ONE_PRICES = {35, 26, 54, 77, 167, 106, 45};
    private static final int[] FORTY_ONE_DEMANDS = {13, 13, 19, 6, 7, 2};
    private static final int[][] FORTY_ONE_ROUTES = {
        {100, 7, 21, 45, 13, 5},
        {16, 6, 9, 2, 18, 100},
        {46, 69, 6, 15, 92, 38},
        {10, 0, 49, 20, 7, 23},
        {10, 99, 0, 9, 54, 45},
        {0, 81, 32, 88, 9, 64},
        {9, 19, 32, 92, 2, 23},
    };

    private static void readCut() {
        SiteCuts x = new SiteCuts();
        typeAll(x, "x");
        due("readCut() without customers, ahead of the fault", x.readCut(), NOT_POSSIBLE);
        x.addSite(10);
        x.addSite(0);
        x.addCustomer(3);
        x.addCustomer(4);
        x.setRoute(0, 0, 4);
        x.setRoute(0, 1, 50);
        x.setRoute(1, 1, 8);
        due("readCut() of 5,10", read(x, "5,10"), 0);
        due("cut(0, 0)", x.cut(0, 0), 1);
        due("cut(0, 2)", x.cut(0, 2), 3 * 5 + 4 * 10);
        due("weight(0, 0)", x.weight(0, 0), 3 * (5 - 4));
        due("weight(0, 1)", x.weight(0, 1), 4 * (10 - 8));
        due("count(9), the text stays", x.count(9), 4);
        due("readCut(), again", x.readCut(), 1);
        due("count(5)", x.count(5), 2);
        due("readCut() of 99,0", read(x, "99,0"), 2);
        due("cut(2, 2)", x.cut(2, 2), 297);
        due("weight(2, 0)", x.weight(2, 0), 285);
        due("weight(2, 1), no route", x.weight(2, 1), 0);
        x.undo();
        due("count(5) behind undo()", x.count(5), 2);
        due("count(9) behind undo(): the text is no part of the state", x.count(9), 4);

        typeAll(x, "7,7");
        for (int cut = 2; cut < 40; cut++) {
            due("readCut()", x.readCut(), cut);
        }
        due("readCut() when there are 40", x.readCut(), FULL);
        due("a fault is told ahead of FULL", read(x, "7"), -101);
        due("count(5)", x.count(5), 40);
    }

    private static void faultsOfTexts() {
        SiteCuts x = new SiteCuts();
        x.addCustomer(1);
        due("of one: empty", read(x, ""), -100);
        due("of one: ,", read(x, ","), -100);
        due("of one: space", read(x, " 5"), -100);
        due("of one: -5", read(x, "-5"), -100);
        due("of one: 05", read(x, "05"), -101);
        due("of one: 00", read(x, "00"), -101);
        due("of one: 0,", read(x, "0,"), -101);
        due("of one: 5,", read(x, "5,"), -101);
        due("of one: 123", read(x, "123"), -102);
        due("of one: 12,", read(x, "12,"), -102);
        due("of one: 12 space", read(x, "12 "), -102);
        due("of one: / is below 0", read(x, "/"), -100);
        due("of one: : is above 9", read(x, ":"), -100);
        due("of one: a digit of another script", read(x, "\u0663"), -100);
        due("of one: a digit with 256 more", read(x, "" + (char) ('5' + 256)), -100);
        due("count(5), nothing is added", x.count(5), 0);
        due("count(8), nothing is recorded", x.count(8), 1);
        due("of one: 0", read(x, "0"), 0);
        due("of one: 9", read(x, "9"), 1);
        due("of one: 10", read(x, "10"), 2);
        due("of one: 99", read(x, "99"), 3);
        due("cut(0, 2)", x.cut(0, 2), 0);
        due("cut(1, 2)", x.cut(1, 2), 9);
        due("cut(2, 2)", x.cut(2, 2), 10);
        due("cut(3, 2)", x.cut(3, 2), 99);

        x.addCustomer(1);
        x.addCustomer(1);
        due("of three: 1", read(x, "1"), -101);
        due("of three: 1,", read(x, "1,"), -102);
        due("of three: 1,2", read(x, "1,2"), -103);
        due("of three: 1,2,", read(x, "1,2,"), -104);
        due("of three: 1,,2", read(x, "1,,2"), -102);
        due("of three: 1;2", read(x, "1;2"), -101);
        due("of three: 1,02,3", read(x, "1,02,3"), -103);
        due("of three: 10,200,3", read(x, "10,200,3"), -105);
        due("of three: 1,2,3,", read(x, "1,2,3,"), -105);
        due("of three: 1,2,3,4", read(x, "1,2,3,4"), -105);
        due("of three: 11,22,33,", read(x, "11,22,33,"), -108);
        due("of three: 0,0,0", read(x, "0,0,0"), 0);
        due("of three: 11,22,33", read(x, "11,22,33"), 1);
        due("cut(1, 2)", x.cut(1, 2), 66);

        StringBuilder sixty = new StringBuilder();
        for (int i = 0; i < 70; i++) {
            sixty.append(i == 4 ? ',' : i == 1 || i == 5 ? ',' : '7');
        }
        due("of three: 60 characters", read(x, sixty.toString()), -105);
    }

    private static void drop() {
        SiteCuts x = threeSites();
        x.solve();
        due("drop(-1)", x.drop(-1), UNKNOWN);
        due("drop(3)", x.drop(3), UNKNOWN);
        due("count(8)", x.count(8), 4);
        due("drop(1)", x.drop(1), 2);
        due("cut(0, 1), the first stays", x.cut(0, 1), 0);
        due("cut(1, 0), the later one comes earlier", x.cut(1, 0), 1);
        due("cut(1, 2)", x.cut(1, 2), 16);
        due("weight(1, 2)", x.weight(1, 2), 9);
        due("cut(2, 0)", x.cut(2, 0), UNKNOWN);
        due("master(2), the best plan stays", x.master(2), 3);
        due("count(7), steps stay", x.count(7), 4);
        due("drop(0)", x.drop(0), 1);
        due("cut(0, 0)", x.cut(0, 0), 1);
        due("drop(0)", x.drop(0), 0);
        due("drop(0)", x.drop(0), UNKNOWN);
        x.undo();
        due("count(5) behind undo()", x.count(5), 1);
        x.undo();
        due("cut(0, 0) behind undo()", x.cut(0, 0), 0);
        due("cut(1, 0) behind undo()", x.cut(1, 0), 1);

        SiteCuts y = twins();
        typeAll(y, "3");
        for (int cut = 0; cut < 40; cut++) {
            y.readCut();
        }
        due("drop(39)", y.drop(39), 39);
        due("drop(39)", y.drop(39), UNKNOWN);
    }

    private static void dropLoose() {
        SiteCuts x = new SiteCuts();
        due("dropLoose() of a new object", x.dropLoose(), NONE);
        x.addCustomer(1);
        x.step();
        due("dropLoose() without a master plan", x.dropLoose(), NOT_POSSIBLE);
        due("count(5)", x.count(5), 1);

        SiteCuts y = threeSites();
        y.solve();
        due("dropLoose(), all are tight", y.dropLoose(), NONE);
        due("count(8)", y.count(8), 4);
        due("readCut(), a loose one", read(y, "0,0"), 3);
        due("readCut(), a tight one", read(y, "3,2"), 4);
        due("master(0)", y.master(0), 3);
        due("dropLoose()", y.dropLoose(), 1);
        due("count(5)", y.count(5), 4);
        due("cut(3, 2), the tight one", y.cut(3, 2), 16);
        due("master(2), the best plan stays", y.master(2), 3);
        due("undo()", y.undo(), 3);
        due("count(5) behind undo()", y.count(5), 5);

        SiteCuts z = new SiteCuts();
        z.addCustomer(1);
        z.addCustomer(1);
        z.addCustomer(1);
        z.addSite(1);
        z.addSite(1);
        z.setRoute(0, 0, 5);
        z.setRoute(1, 0, 5);
        z.setRoute(0, 1, 5);
        z.setRoute(1, 2, 5);
        due("solve()", z.solve(), 4);
        due("master(0)", z.master(0), 3);
        due("cut(0, 1)", z.cut(0, 1), 0);
        due("dropLoose(), the ray that both reach", z.dropLoose(), 1);
        due("cut(0, 1)", z.cut(0, 1), 2);
        due("cut(1, 1)", z.cut(1, 1), 1);
        due("cut(2, 0)", z.cut(2, 0), 1);

        SiteCuts w = new SiteCuts();
        w.addCustomer(1);
        w.addSite(0);
        w.addSite(0);
        w.setRoute(0, 0, 0);
        w.setRoute(1, 0, 0);
        due("step()", w.step(), 0);
        due("step()", w.step(), 2);
        due("readCut(), value 0 with the plan", read(w, "7"), 1);
        due("dropLoose(), 0 is tight", w.dropLoose(), NONE);
        w.addSite(0);
        w.setMost(7);
        w.setRoute(0, 0, 1);
        w.setRoute(1, 0, 1);
        w.setRoute(2, 0, 2);
        w.addCustomer(1);
        w.setRoute(0, 1, 0);
        w.setRoute(1, 1, 9);
        due("solve()", w.solve(), 2);
        due("master(0)", w.master(0), 1);
        due("readCut()", read(w, "0,0"), 2);
        due("dropLoose(), below what is guessed", w.dropLoose(), 1);
        due("count(5)", w.count(5), 2);

        SiteCuts v = new SiteCuts();
        v.addCustomer(1);
        v.addSite(0);
        v.addSite(0);
        v.setRoute(0, 0, 0);
        v.setRoute(1, 0, 0);
        v.addCustomer(1);
        v.setRoute(0, 1, 0);
        v.step();
        v.step();
        due("readCut()", read(v, "9,9"), 1);
        due("value(1, 3), below 0", v.value(1, 3), 1000000 - 9);
        due("master(0)", v.master(0), 1);
        due("dropLoose()", v.dropLoose(), NONE);
        v.exclude(0, 1, true);
        v.setRoute(0, 0, 100);
        v.setRoute(0, 0, 1);
        v.exclude(0, 1, false);
        v.addCustomer(1);
        v.setRoute(1, 2, 0);
        v.solve();
        due("master(0), both are needed", v.master(0), 3);
        v.clearText();
        int cuts = v.count(5);
        due("readCut()", read(v, "9,9,0"), cuts);
        due("value below 0", v.value(cuts, 3), 1000000 - 8);
        int answer = v.dropLoose();
        due("dropLoose() drops a value below 0 and the ray of 0", answer, 2);
    }

    private static void type() {
        SiteCuts x = new SiteCuts();
        for (int length = 1; length <= 60; length++) {
            due("type()", x.type((char) (length * 1000)), length);
        }
        due("type() when there are 60", x.type('1'), FULL);
        due("type(0) when there are 60", x.type((char) 0), FULL);
        due("count(9)", x.count(9), 60);
        due("count(8), it is no act", x.count(8), 0);
        x.clearText();
        due("type((char) 0)", x.type((char) 0), 1);
        due("type((char) 65535)", x.type((char) 65535), 2);
    }

    private static void clearText() {
        SiteCuts x = new SiteCuts();
        due("clearText() of an empty text", x.clearText(), 0);
        x.addCustomer(1);
        typeAll(x, "123");
        due("clearText()", x.clearText(), 3);
        due("count(9)", x.count(9), 0);
        due("clearText(), again", x.clearText(), 0);
        due("readCut() of the empty text", x.readCut(), -100);
        due("type(5)", x.type('5'), 1);
        due("readCut() of 5, nothing of the old text is left", x.readCut(), 0);
        due("count(8), it is no act", x.count(8), 2);
    }

    private static void undo() {
        SiteCuts x = new SiteCuts();
        due("undo() of an empty history", x.undo(), NONE);
        for (int price = 0; price < 6; price++) {
            x.addSite(price);
        }
        due("count(8), four at most", x.count(8), 4);
        due("undo()", x.undo(), 3);
        due("count(0)", x.count(0), 5);
        due("undo()", x.undo(), 2);
        due("undo()", x.undo(), 1);
        due("undo()", x.undo(), 0);
        due("count(0), the oldest ones were dropped", x.count(0), 2);
        due("undo()", x.undo(), NONE);
        due("count(0)", x.count(0), 2);
        due("plan(3, 1)", x.plan(3, 1), 1);

        SiteCuts y = threeSites();
        typeAll(y, "1,1");
        y.setMost(2);
        y.exclude(0, 2, true);
        y.solve();
        y.setDemand(0, 7);
        due("undo(), cuts, steps and the best plan come back", y.undo(), 3);
        due("count(5)", y.count(5), 3);
        due("count(7)", y.count(7), 4);
        due("master(2)", y.master(2), 3);
        due("undo(), the text stays", y.undo(), 2);
        due("count(9)", y.count(9), 3);
        due("count(4)", y.count(4), 1);
        due("undo()", y.undo(), 1);
        due("count(4)", y.count(4), 0);
        due("count(3)", y.count(3), 2);
        due("undo()", y.undo(), 0);
        due("count(3)", y.count(3), 7);

        SiteCuts z = new SiteCuts();
        z.addSite(1);
        z.keep();
        z.addSite(2);
        z.undo();
        z.undo();
        due("restore(), the snapshot stays behind undo()", z.restore(), 0);
        due("count(0)", z.count(0), 1);
        due("undo() of restore()", z.undo(), 0);
        due("count(0)", z.count(0), 0);
    }

    private static void keep() {
        SiteCuts x = threeSites();
        due("keep()", x.keep(), 0);
        due("count(8), it is no act", x.count(8), 4);
        x.solve();
        due("keep(), in place of the one that was", x.keep(), 3);
        x.drop(0);
        due("restore()", x.restore(), 3);
        due("cut(0, 1)", x.cut(0, 1), 0);
        x.undo();
        due("count(5)", x.count(5), 2);
    }

    private static void restore() {
        SiteCuts x = threeSites();
        due("restore() without a snapshot", x.restore(), NONE);
        due("count(8)", x.count(8), 4);
        x.solve();
        x.keep();
        x.setMost(3);
        x.exclude(0, 1, true);
        x.setPrice(0, 77);
        x.setRoute(1, 0, 7);
        x.setDemand(1, 9);
        x.addSite(1);
        x.addCustomer(1);
        typeAll(x, "55");
        due("restore()", x.restore(), 3);
        due("count(0)", x.count(0), 3);
        due("count(1)", x.count(1), 2);
        due("count(2)", x.count(2), 4);
        due("count(3)", x.count(3), 7);
        due("count(4)", x.count(4), 0);
        due("count(7)", x.count(7), 4);
        due("count(8)", x.count(8), 4);
        due("count(9), the text stays", x.count(9), 2);
        due("master(2)", x.master(2), 3);
        due("plan(3, 0)", x.plan(3, 0), 30);
        due("restore(), the snapshot stays", x.restore(), 3);
        due("undo() of the second restore()", x.undo(), 3);
        due("undo() of the first restore()", x.undo(), 2);
        due("count(0)", x.count(0), 4);
        due("count(1)", x.count(1), 3);

        SiteCuts y = new SiteCuts();
        y.keep();
        due("restore() of a snapshot of nothing", y.restore(), 0);
        due("count(8), an act", y.count(8), 1);
        y.addSite(1);
        y.restore();
        y.addSite(2);
        due("what comes behind restore() does not reach the snapshot", y.restore(), 0);
        due("count(0)", y.count(0), 0);
    }

    private static void judge() {
        SiteCuts x = threeSites();
        due("judge(-1)", x.judge(-1), BAD_VALUE);
        due("judge(8)", x.judge(8), BAD_VALUE);
        due("judge(0)", x.judge(0), 3);
        due("judge(1)", x.judge(1), 3);
        due("judge(2)", x.judge(2), 3);
        due("judge(3)", x.judge(3), 0);
        due("judge(4)", x.judge(4), 0);
        due("judge(7)", x.judge(7), 0);
        x.exclude(0, 1, true);
        due("judge(3)", x.judge(3), 2);
        due("judge(7)", x.judge(7), 2);
        due("judge(5)", x.judge(5), 0);
        x.setMost(1);
        due("judge(3), too many first", x.judge(3), 1);
        due("judge(5)", x.judge(5), 1);
        due("judge(4)", x.judge(4), 0);
        x.addCustomer(1);
        due("judge(5)", x.judge(5), 1);
        x.setMost(2);
        due("judge(3), excluded ahead of not reached", x.judge(3), 2);
        due("judge(5)", x.judge(5), 3);
    }

    private static void plan() {
        SiteCuts x = threeSites();
        x.solve();
        due("plan(-1, 0)", x.plan(-1, 0), BAD_VALUE);
        due("plan(8, 0)", x.plan(8, 0), BAD_VALUE);
        due("plan(3, -1)", x.plan(3, -1), BAD_VALUE);
        due("plan(3, 5)", x.plan(3, 5), BAD_VALUE);
        due("plan(0, 5), ahead of NOT_POSSIBLE", x.plan(0, 5), BAD_VALUE);
        due("plan(0, 0)", x.plan(0, 0), NOT_POSSIBLE);
        due("plan(0, 2)", x.plan(0, 2), NOT_POSSIBLE);
        due("plan(0, 1)", x.plan(0, 1), 0);
        due("plan(0, 3)", x.plan(0, 3), 16);
        due("plan(0, 4)", x.plan(0, 4), 2);
        due("plan(3, 0)", x.plan(3, 0), 30);
        due("plan(3, 1)", x.plan(3, 1), 14);
        due("plan(3, 2)", x.plan(3, 2), 16);
        due("plan(3, 3)", x.plan(3, 3), 30);
        due("plan(3, 4)", x.plan(3, 4), 0);
        due("plan(7, 0)", x.plan(7, 0), 51);
        due("plan(7, 2)", x.plan(7, 2), 7);
        due("plan(7, 3)", x.plan(7, 3), 51);
        due("plan(2, 4)", x.plan(2, 4), 1);
        due("plan(2, 3)", x.plan(2, 3), 20);
        x.setMost(1);
        due("plan(3, 0), also if it is not allowed", x.plan(3, 0), 30);
        due("plan(3, 2), also if it is not allowed", x.plan(3, 2), 16);
        due("readCut()", read(x, "0,9"), 3);
        due("plan(0, 3), the greatest of several", x.plan(0, 3), 45);
        due("plan(2, 3), the greatest of several", x.plan(2, 3), 20);
        due("plan(6, 3), below 0 a value does not count", x.plan(6, 3), 34 + 7);
        SiteCuts y = threeSites();
        due("readCut()", read(y, "0,9"), 0);
        due("value(0, 6), below 0", y.value(0, 6), 1000000 + 45 - 35 - 40);
        due("plan(6, 3), 0 is greater", y.plan(6, 3), 34);
    }

    private static void serves() {
        SiteCuts x = threeSites();
        due("serves(-1, 0)", x.serves(-1, 0), BAD_VALUE);
        due("serves(8, 9), the plan first", x.serves(8, 9), BAD_VALUE);
        due("serves(0, -1)", x.serves(0, -1), UNKNOWN);
        due("serves(7, 2)", x.serves(7, 2), UNKNOWN);
        due("serves(0, 0)", x.serves(0, 0), NONE);
        due("serves(2, 0)", x.serves(2, 0), NONE);
        due("serves(1, 0)", x.serves(1, 0), 0);
        due("serves(3, 1)", x.serves(3, 1), 1);
        due("serves(7, 0)", x.serves(7, 0), 2);
        x.setRoute(2, 0, 3);
        due("serves(7, 0), the lowest of several", x.serves(7, 0), 0);
        due("serves(6, 0)", x.serves(6, 0), 2);
        x.setRoute(0, 0, 99);
        x.setRoute(2, 0, 100);
        due("serves(7, 0), the dearest price", x.serves(7, 0), 0);
        due("serves(6, 0)", x.serves(6, 0), NONE);
        x.setMost(1);
        due("serves(7, 1), also if it is not allowed", x.serves(7, 1), 2);
    }

    private static void cut() {
        SiteCuts x = threeSites();
        due("cut(0, 0)", x.cut(0, 0), UNKNOWN);
        x.solve();
        due("cut(-1, 0)", x.cut(-1, 0), UNKNOWN);
        due("cut(3, 9), the cut first", x.cut(3, 9), UNKNOWN);
        due("cut(0, -1)", x.cut(0, -1), BAD_VALUE);
        due("cut(0, 5)", x.cut(0, 5), BAD_VALUE);
        due("cut(2, 5)", x.cut(2, 5), BAD_VALUE);
        due("cut(0, 0)", x.cut(0, 0), 0);
        due("cut(2, 0)", x.cut(2, 0), 1);
        due("cut(0, 1)", x.cut(0, 1), 0);
        due("cut(1, 1)", x.cut(1, 1), 1);
        due("cut(2, 1)", x.cut(2, 1), NONE);
        due("cut(0, 2)", x.cut(0, 2), 1);
        due("cut(2, 2)", x.cut(2, 2), 16);
        for (int cut = 0; cut < 3; cut++) {
            due("cut(" + cut + ", 3)", x.cut(cut, 3), 0);
        }
        due("cut(0, 4): 3, 4 and 6", x.cut(0, 4), 3);
        due("cut(1, 4): 3, 4 and 5", x.cut(1, 4), 3);
        due("cut(2, 4): all", x.cut(2, 4), 5);
        x.setMost(2);
        due("cut(0, 4) with a most of 2", x.cut(0, 4), 3);
        due("cut(2, 4) with a most of 2", x.cut(2, 4), 4);
        x.exclude(0, 1, true);
        due("cut(0, 4) with an exclusion", x.cut(0, 4), 2);
        due("cut(2, 4) with an exclusion", x.cut(2, 4), 3);
        due("readCut()", read(x, "99,99"), 3);
        due("cut(3, 2)", x.cut(3, 2), 693);
        due("cut(3, 3), it holds for all plans", x.cut(3, 3), 0);
        due("cut(3, 4): 4 alone", x.cut(3, 4), 1);

        SiteCuts y = new SiteCuts();
        y.addSite(1);
        y.addCustomer(1);
        y.step();
        due("cut(0, 2) of a ray that no site fulfils", y.cut(0, 2), 1);
        due("cut(0, 3), no plan is feasible", y.cut(0, 3), 0);
        due("cut(0, 4), no plan is feasible", y.cut(0, 4), 0);
    }

    private static void weight() {
        SiteCuts x = threeSites();
        x.solve();
        due("weight(-1, 0)", x.weight(-1, 0), UNKNOWN);
        due("weight(3, 0)", x.weight(3, 0), UNKNOWN);
        due("weight(0, -1)", x.weight(0, -1), UNKNOWN);
        due("weight(0, 3)", x.weight(0, 3), UNKNOWN);
        due("weight(0, 0)", x.weight(0, 0), 1);
        due("weight(0, 1)", x.weight(0, 1), 0);
        due("weight(0, 2)", x.weight(0, 2), 1);
        due("weight(1, 0)", x.weight(1, 0), 0);
        due("weight(1, 1)", x.weight(1, 1), 1);
        due("weight(2, 0)", x.weight(2, 0), 0);
        due("weight(2, 2)", x.weight(2, 2), 9);
        due("readCut()", read(x, "99,4"), 3);
        due("weight(3, 0)", x.weight(3, 0), 2 * 96);
        due("weight(3, 1)", x.weight(3, 1), 5 * 2);
        due("weight(3, 2)", x.weight(3, 2), 2 * 98 + 5 * 3);
    }

    private static void value() {
        SiteCuts x = threeSites();
        x.solve();
        due("value(-1, 0)", x.value(-1, 0), UNKNOWN);
        due("value(3, -1), the cut first", x.value(3, -1), UNKNOWN);
        due("value(0, -1)", x.value(0, -1), BAD_VALUE);
        due("value(0, 8)", x.value(0, 8), BAD_VALUE);
        due("value(2, 8)", x.value(2, 8), BAD_VALUE);
        due("value(0, 0)", x.value(0, 0), 0);
        due("value(0, 1)", x.value(0, 1), 1);
        due("value(0, 2)", x.value(0, 2), 0);
        due("value(0, 7)", x.value(0, 7), 2);
        due("value(2, 0)", x.value(2, 0), 1000016);
        due("value(2, 3)", x.value(2, 3), 1000016);
        due("value(2, 4)", x.value(2, 4), 1000007);
        due("readCut()", read(x, "99,99"), 3);
        due("value(3, 7), below 0", x.value(3, 7), 1000000 + 693 - 192 - 485 - 196 - 490);
    }

    private static void master() {
        SiteCuts x = threeSites();
        due("master(-1)", x.master(-1), BAD_VALUE);
        due("master(5)", x.master(5), BAD_VALUE);
        due("master(0)", x.master(0), 0);
        due("master(1)", x.master(1), 0);
        due("master(2)", x.master(2), NONE);
        due("master(3)", x.master(3), NONE);
        due("master(4), no best plan", x.master(4), NONE);
        x.step();
        due("master(0)", x.master(0), 1);
        due("master(1)", x.master(1), 10);
        x.step();
        due("master(0)", x.master(0), 3);
        due("master(1)", x.master(1), 14);
        x.step();
        due("master(0)", x.master(0), 3);
        due("master(1)", x.master(1), 30);
        due("master(2)", x.master(2), 3);
        due("master(3)", x.master(3), 30);
        due("master(4)", x.master(4), 0);
        x.drop(2);
        due("master(1), without the price cut", x.master(1), 14);
        due("master(3), it stays", x.master(3), 30);
        due("master(4)", x.master(4), 16);
        x.exclude(0, 1, true);
        due("master(0), of all allowed plans", x.master(0), 4);
        due("master(4)", x.master(4), NONE);
        x.exclude(1, 2, true);
        x.setMost(1);
        due("master(0)", x.master(0), 4);
        due("master(1)", x.master(1), 30);

        SiteCuts y = new SiteCuts();
        y.addCustomer(1);
        y.addCustomer(1);
        y.addSite(3);
        y.addSite(3);
        y.setRoute(0, 0, 2);
        y.setRoute(1, 1, 2);
        due("solve()", y.solve(), 3);
        due("master(2)", y.master(2), 3);
        y.setMost(1);
        due("master(0), no allowed plan fulfils all rays", y.master(0), NONE);
        due("master(1)", y.master(1), NONE);
        due("master(4)", y.master(4), NONE);
        due("step()", y.step(), NOT_POSSIBLE);

        SiteCuts z = new SiteCuts();
        z.addSite(0);
        z.addSite(0);
        z.addCustomer(2);
        z.setRoute(0, 0, 5);
        z.setRoute(1, 0, 5);
        z.step();
        due("master(0), the least number of several", z.master(0), 1);
        due("readCut()", read(z, "9"), 1);
        due("master(0), the guess becomes less by both", z.master(0), 3);
        due("master(1)", z.master(1), 2);
    }

    private static void byAll() {
        SiteCuts x = threeSites();
        due("byAll(-1)", x.byAll(-1), BAD_VALUE);
        due("byAll(3)", x.byAll(3), BAD_VALUE);
        due("byAll(0)", x.byAll(0), 3);
        due("byAll(1)", x.byAll(1), 30);
        due("byAll(2)", x.byAll(2), 5);
        x.setPrice(2, 23);
        due("byAll(0), the least number of several", x.byAll(0), 3);
        due("byAll(1)", x.byAll(1), 30);
        x.setPrice(2, 22);
        due("byAll(0)", x.byAll(0), 4);
        due("byAll(1)", x.byAll(1), 29);
        x.setPrice(2, 30);
        x.exclude(0, 1, true);
        due("byAll(0)", x.byAll(0), 4);
        due("byAll(1)", x.byAll(1), 37);
        due("byAll(2)", x.byAll(2), 3);
        x.setMost(1);
        due("byAll(2)", x.byAll(2), 1);
        x.addCustomer(1);
        due("byAll(0), there is none", x.byAll(0), NONE);
        due("byAll(1), there is none", x.byAll(1), NONE);
        due("byAll(2), there is none", x.byAll(2), 0);
        due("byAll(3)", x.byAll(3), BAD_VALUE);
        SiteCuts y = new SiteCuts();
        y.addSite(3);
        due("byAll(0) without customers", y.byAll(0), 0);
        due("byAll(1) without customers", y.byAll(1), 0);
        due("byAll(2) without customers", y.byAll(2), 2);
    }

    private static void count() {
        SiteCuts x = threeSites();
        due("count(-1)", x.count(-1), BAD_VALUE);
        due("count(10)", x.count(10), BAD_VALUE);
        x.setMost(3);
        x.exclude(0, 2, true);
        x.exclude(0, 1, true);
        x.exclude(0, 1, false);
        x.solve();
        typeAll(x, "12,3,");
        int[] want = {3, 2, 4, 3, 1, 3, 2, 4, 4, 5};
        for (int what = 0; what < want.length; what++) {
            due("count(" + what + ")", x.count(what), want[what]);
        }
        x.undo();
        due("count(8)", x.count(8), 3);
    }
}
