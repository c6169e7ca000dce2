import java.io.IOException;

/** The sentences of the document that name no boundary case: what is ordinary, from the first line to the last. */
public final class SentencesTest extends Boundary {
    public static void main(String[] args) throws IOException {
        begin();
        whatItIs();
        terms();
        aStep();
        sitesAndCustomers();
        cuts();
        told();
        toldOfCuts();
        toldOfAll();
        end();
    }

    private static void whatItIs() {
        part("What it is");
        sentence("Sites that are opened to serve customers");
        due("plan(5, 0)", three().plan(5, 0), 10 + 30 + 2 * 1 + 5 * 1);
        due("plan(3, 0)", three().plan(3, 0), 10 + 4 + 2 * 3 + 5 * 2);

        sentence("a master plan that is improved by cuts");
        SiteCuts x = three();
        int[] plans = {0, 1, 3, 3, 3};
        for (int step = 0; step < plans.length; step++) {
            due("master(0) behind " + step + " steps", x.master(0), plans[step]);
            x.step();
        }

        sentence("a master that knows only the prices of the sites and the cuts found so far");
        due("master(0), no cuts", with(Boundary::three, s -> s.setRoute(2, 0, 100)).master(0), 0);
        due("master(1), no cuts", three().master(1), 0);
        SiteCuts known = rich();
        known.drop(2);
        due("master(1), the rays alone", known.master(1), 14);
        known.drop(1);
        due("master(1), the first ray alone", known.master(1), 10);

        sentence("customers who cannot be reached and give rays, prices of routes that give cuts");
        int[] kinds = {0, 0, 1};
        for (int cut = 0; cut < kinds.length; cut++) {
            due("cut(" + cut + ", 0)", rich().cut(cut, 0), kinds[cut]);
        }

        sentence("bounds from below and above and the gap between");
        boundsMeet();

        sentence("cuts that are typed as texts with the places of faults, cuts that are dropped");
        SiteCuts typed = three();
        due("readCut() of 1x", read(typed, "1x"), -101);
        due("readCut() of 1,2", read(typed, "1,2"), 0);
        due("drop(0)", typed.drop(0), 0);

        sentence("proofs that each cut holds for all plans, the best plan by looking at all, undo and a snapshot");
        SiteCuts many = with(() -> stubborn(4), s -> s.solve());
        many.keep();
        for (int cut = 0; cut < 40; cut++) {
            due("cut(" + cut + ", 3)", many.cut(cut, 3), 0);
        }
        due("master(2), as by looking at all", many.master(2), many.byAll(0));
        due("setPrice(0, 9)", many.setPrice(0, 9), 1);
        due("undo()", many.undo(), 3);
        due("count(5) behind undo()", many.count(5), 40);
        many.addSite(999);
        many.setPrice(0, 9);
        due("restore()", many.restore(), 40);
    }

    /** The lower bound never falls and the upper one never rises; what is best stands between. */
    private static void boundsMeet() {
        SiteCuts x = stubborn(4);
        int best = x.byAll(1);
        int lower = 0;
        int upper = 1000000;
        for (int step = 0; step <= 40; step++) {
            due("step() " + step + " adds a cut until the last one", Math.min(x.step(), 2) == 2 ? 1 : 0, step / 40);
            int nowLower = x.master(1);
            int nowUpper = x.master(3) == NONE ? upper : x.master(3);
            due("lower bounds in order", nowLower >= lower && nowLower <= best ? 1 : 0, 1);
            due("upper bounds in order", nowUpper <= upper && nowUpper >= best ? 1 : 0, 1);
            due("master(4)", x.master(4), x.master(3) == NONE ? NONE : nowUpper - nowLower);
            lower = nowLower;
            upper = nowUpper;
        }
        due("master(1), solved", lower, best);
        due("master(3), solved", upper, best);
    }

    private static void terms() {
        part("Terms");
        sentence("The cost of a feasible plan is the prices of its sites together, plus for each customer");
        SiteCuts x = three();
        int[] costs = {NOT_POSSIBLE, NOT_POSSIBLE, NOT_POSSIBLE, 30, 37, 47, 41, 51};
        for (int plan = 0; plan < costs.length; plan++) {
            due("plan(" + plan + ", 0)", x.plan(plan, 0), costs[plan]);
        }

        sentence("Its value for a plan is the sum, over all customers, of demand * (u - the sum, over all sites of "
            + "the plan with a route to the customer whose price is less than u, of u - this price).");
        due("readCut()", read(x, "4,3"), 0);
        int[] values = {23, 21, 18, 16, 7, 5, 2, 0};
        for (int plan = 0; plan < values.length; plan++) {
            due("value(0, " + plan + ")", x.value(0, plan), 1000000 + values[plan]);
        }

        sentence("the one with the least guess: the prices of its sites together, plus the greatest value");
        int[] guesses = {23, 31, 22, 30, 37, 45, 36, 44};
        for (int plan = 0; plan < guesses.length; plan++) {
            due("plan(" + plan + ", 3)", x.plan(plan, 3), guesses[plan]);
        }
        due("master(0)", x.master(0), 2);
        due("master(1)", x.master(1), 22);

        sentence("There is a text of at most 60 characters, empty at first. A text of a price cut is a number");
        SiteCuts w = three();
        for (char sign : new char[] {'1', '2', ',', '3'}) {
            w.type(sign);
        }
        due("readCut() of 12,3", w.readCut(), 0);
        due("cut(0, 2)", w.cut(0, 2), 2 * 12 + 5 * 3);

        sentence("Errors are reported by the constants below.");
        due("drop(0)", new SiteCuts().drop(0), SiteCuts.UNKNOWN);
        due("addSite(-1)", new SiteCuts().addSite(-1), SiteCuts.BAD_VALUE);
        due("readCut()", filled(40).readCut(), SiteCuts.FULL);
        due("solve()", new SiteCuts().solve(), SiteCuts.NOT_POSSIBLE);
        due("undo()", new SiteCuts().undo(), SiteCuts.NONE);
    }

    private static void aStep() {
        part("Terms");
        sentence("A step finds the master plan. If it does not reach all customers, the ray of the lowest customer "
            + "that it does not reach is added. Otherwise it becomes the best plan, if there is none yet, or its cost "
            + "is less; then, if its cost is its guess, all is solved and nothing is added; otherwise the price cut "
            + "is added");
        SiteCuts x = stubborn(4);
        int best = NONE;
        for (int step = 0; step < 40; step++) {
            int plan = x.master(0);
            int cost = x.plan(plan, 0);
            int reached = cost == NOT_POSSIBLE ? 0 : 1;
            int routes = x.plan(plan, 2);
            due("step()", x.step(), reached);
            due("cut(" + step + ", 0)", x.cut(step, 0), reached);
            best = reached == 1 && (best == NONE || cost < best) ? cost : best;
            due("master(3)", x.master(3), best);
            due("value(" + step + ", " + plan + "), what was missed", x.value(step, plan),
                reached == 0 ? 0 : 1000000 + routes);
        }
    }

    private static void sitesAndCustomers() {
        part("Promise 2:");
        sentence("Returns its number; BAD_VALUE; FULL if there are 7.");
        due("addSite(3)", three().addSite(3), 3);
        part("Promise 3:");
        sentence("Returns its number; BAD_VALUE; FULL if there are 8.");
        due("addCustomer(3)", three().addCustomer(3), 2);
        part("Promise 4:");
        sentence("Changes the price of a site.");
        SiteCuts x = rich();
        due("setPrice(1, 5)", x.setPrice(1, 5), 4);
        due("plan(2, 1)", x.plan(2, 1), 5);
        due("plan(5, 1), the others", x.plan(5, 1), 40);
        part("Promise 5:");
        sentence("Changes the demand of a customer.");
        due("setDemand(1, 6)", x.setDemand(1, 6), 5);
        due("plan(3, 2)", x.plan(3, 2), 2 * 3 + 6 * 2);
        part("Promise 6:");
        sentence("Changes a route.");
        due("setRoute(1, 0, 1)", x.setRoute(1, 0, 1), 100);
        due("plan(3, 2)", x.plan(3, 2), 2 * 1 + 6 * 2);
        due("serves(3, 0)", x.serves(3, 0), 1);
        part("Promise 7:");
        sentence("Sets the most of sites.");
        due("setMost(1)", x.setMost(1), 3);
        due("count(3)", x.count(3), 1);
        due("judge(3)", x.judge(3), 1);
        part("Promise 8:");
        sentence("Lets two sites exclude one another, or not any more.");
        due("exclude(0, 2, false)", x.exclude(0, 2, false), 0);
        due("count(4)", x.count(4), 0);
        sentence("`is`: whether they do then");
        due("exclude(0, 2, true)", x.exclude(0, 2, true), 1);
        due("count(4)", x.count(4), 1);
        due("exclude(2, 0, true)", x.exclude(2, 0, true), NONE);
    }

    private static void cuts() {
        part("Promise 9:");
        sentence("Makes a step.");
        due("count(7)", with(Boundary::three, s -> s.step()).count(7), 1);
        sentence("Returns 0 if a ray was added, 1 if a price cut was, 2 if all is solved; NOT_POSSIBLE if there is "
            + "no customer, or no allowed plan that fulfils all rays;");
        SiteCuts x = three();
        int[] answers = {0, 0, 1, 2, 2};
        for (int answer : answers) {
            due("step()", x.step(), answer);
        }
        x.setMost(1);
        due("step(), solved by the site that is left", x.step(), 2);
        x.exclude(0, 1, true);
        due("step(), still", x.step(), 2);
        due("step() without customers", new SiteCuts().step(), NOT_POSSIBLE);
        due("step() without a plan", hopeless().step(), NOT_POSSIBLE);
        part("Promise 10:");
        sentence("Returns how many cuts were added; NOT_POSSIBLE if there is no customer, or the first step is not "
            + "possible; FULL if more than 40 cuts would be needed.");
        due("solve()", three().solve(), 3);
        due("solve() without customers", new SiteCuts().solve(), NOT_POSSIBLE);
        due("solve() without a plan", hopeless().solve(), NOT_POSSIBLE);
        due("solve() without room", filled(40).solve(), FULL);
        part("Promise 11:");
        sentence("Returns its number; NOT_POSSIBLE if there is no customer; -100 minus the fault of the text if it has "
            + "one (which is an error); FULL if there are 40.");
        due("readCut()", rich().readCut(), 3);
        due("readCut() of none", with(Boundary::rich, s -> s.clearText()).readCut(), -100);
        part("Promise 12:");
        sentence("Drops a cut.");
        SiteCuts y = rich();
        due("drop(0)", y.drop(0), 2);
        due("cut(0, 1), the ray that was the second", y.cut(0, 1), 1);
        due("cut(1, 0), the price cut", y.cut(1, 0), 1);
        part("Promise 13:");
        sentence("Drops all cuts that are not tight for the master plan: price cuts whose value for it is less than "
            + "what it guesses above the prices of its sites (which is 0 or more), and rays");
        SiteCuts z = rich();
        for (String text : new String[] {"3,1", "3,2", "2,2", "9,9"}) {
            read(z, text);
        }
        due("value(3, 3), of 3,1", z.value(3, 3), 1000011);
        due("value(5, 3), of 2,2", z.value(5, 3), 1000014);
        due("dropLoose(), these two", z.dropLoose(), 2);
        due("count(5)", z.count(5), 5);
        due("cut(3, 2), of 3,2", z.cut(3, 2), 2 * 3 + 5 * 2);
        due("cut(4, 2), of 9,9", z.cut(4, 2), 2 * 9 + 5 * 9);
    }

    private static void told() {
        part("Promise 20:");
        sentence("0 for its cost (also if it is not allowed), 1 for the prices of its sites, 2 for what its routes "
            + "cost, 3 for its guess by the cuts (also if it does not fulfil them), 4 for the rays that it does not "
            + "fulfil");
        int[] want = {41, 34, 7, 41, 0};
        for (int what = 0; what < want.length; what++) {
            due("plan(6, " + what + ")", rich().plan(6, what), want[what]);
        }
        part("Promise 21:");
        sentence("Returns the site from which the customer is served: that with the least price of a route, of "
            + "several the lowest one; BAD_VALUE (plan); UNKNOWN; NONE if it is not reached.");
        int[] first = {NONE, 0, NONE, 0, 2, 2, 2, 2};
        int[] second = {NONE, NONE, 1, 1, 2, 2, 2, 2};
        for (int plan = 0; plan < first.length; plan++) {
            due("serves(" + plan + ", 0)", rich().serves(plan, 0), first[plan]);
            due("serves(" + plan + ", 1)", rich().serves(plan, 1), second[plan]);
        }
        due("serves(8, 0)", rich().serves(8, 0), BAD_VALUE);
        due("serves(7, 2)", rich().serves(7, 2), UNKNOWN);
    }

    private static void toldOfCuts() {
        part("Promise 22:");
        sentence("0 for its kind (0 a ray, 1 a price cut), 1 for its customer");
        int[][] want = {{0, 0, 1, 0, 4}, {0, 1, 1, 0, 3}, {1, NONE, 16, 0, 3}};
        for (int cut = 0; cut < want.length; cut++) {
            for (int what = 0; what < 4; what++) {
                due("cut(" + cut + ", " + what + ")", rich().cut(cut, what), want[cut][what]);
            }
        }
        part("Promise 23:");
        sentence("of a price cut by how much its value becomes less by this site; UNKNOWN (cut or site).");
        int[][] weights = {{1, 0, 1}, {0, 1, 1}, {0, 0, 9}};
        for (int cut = 0; cut < weights.length; cut++) {
            for (int site = 0; site < 3; site++) {
                due("weight(" + cut + ", " + site + ")", rich().weight(cut, site), weights[cut][site]);
            }
            due("weight(" + cut + ", 3)", rich().weight(cut, 3), UNKNOWN);
        }
        due("weight(3, 0)", rich().weight(3, 0), UNKNOWN);
        part("Promise 24:");
        sentence("of a price cut its value for the plan, plus 1000000; UNKNOWN; BAD_VALUE.");
        int[] less = {0, 0, 0, 0, 9, 9, 9, 9};
        for (int plan = 0; plan < less.length; plan++) {
            due("value(2, " + plan + ")", rich().value(2, plan), 1000016 - less[plan]);
        }
        due("value(3, 0)", rich().value(3, 0), UNKNOWN);
        due("value(2, 8)", rich().value(2, 8), BAD_VALUE);
    }

    private static void toldOfAll() {
        part("Promise 25:");
        sentence("0 for the master plan, 1 for the lower bound (its guess), 2 for the best plan, 3 for the upper bound, "
            + "4 for the gap (upper less lower bound)");
        SiteCuts x = rich();
        x.drop(2);
        int[] master = {3, 14, 3, 30, 16};
        for (int what = 0; what < master.length; what++) {
            due("master(" + what + ")", x.master(what), master[what]);
        }
        part("Promise 26:");
        sentence("Tells the best plan of all by looking at each, without cuts: the feasible one");
        int[] best = {3, 30, 3};
        for (int what = 0; what < best.length; what++) {
            due("byAll(" + what + "), no cuts", with(Boundary::rich, s -> s.setDemand(0, 2)).byAll(what), best[what]);
        }
        sentence("0 for the plan, 1 for its cost, 2 for the number of feasible plans");
        int[] unbound = {3, 30, 5};
        for (int what = 0; what < unbound.length; what++) {
            due("byAll(" + what + ")", three().byAll(what), unbound[what]);
        }
        part("Promise 27:");
        sentence("0 for sites, 1 for customers, 2 for routes, 3 for the most of sites, 4 for pairs that exclude one "
            + "another, 5 for cuts, 6 for rays, 7 for steps so far (those of solve() too), 8 for the states in the "
            + "history, 9 for the length of the text");
        int[] count = {3, 2, 4, 3, 1, 3, 2, 4, 4, 3};
        for (int what = 0; what < count.length; what++) {
            due("count(" + what + ")", rich().count(what), count[what]);
        }
    }
}
