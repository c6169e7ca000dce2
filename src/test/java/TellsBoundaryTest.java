import java.io.IOException;

/** The boundary cases of the calls that tell something: promises 19 to 27. */
public final class TellsBoundaryTest extends Boundary {
    public static void main(String[] args) throws IOException {
        begin();
        judge();
        plan();
        serves();
        cut();
        weight();
        value();
        master();
        byAll();
        count();
        end();
    }

    private static void judge() {
        part("Promise 19:");
        sentence("`plan`: a set of sites that there are, as bits");
        for (int sites = 0; sites <= 7; sites++) {
            SiteCuts x = bare(sites, 0);
            due("judge(), all of " + sites, x.judge((1 << sites) - 1), 0);
            due("judge(), one above " + sites, x.judge(1 << sites), BAD_VALUE);
            due("judge(), one above and all", x.judge((2 << sites) - 1), BAD_VALUE);
        }
        refused(Boundary::rich, "judge(%)", (s, plan) -> s.judge(plan), BAD_VALUE,
            -1, -2, -8, 8, 11, 128, LEAST, GREATEST);
        sentence("Returns 0 if it is feasible; otherwise the first of these that is so: 1 it has too many sites, "
            + "2 two of them exclude one another, 3 a customer is not reached; BAD_VALUE.");
        SiteCuts y = bare(3, 1);
        y.setRoute(0, 0, 1);
        due("judge(7)", y.judge(7), 0);
        due("judge(6), not reached", y.judge(6), 3);
        y.exclude(1, 2, true);
        due("judge(7), excluding", y.judge(7), 2);
        due("judge(6), excluding and not reached", y.judge(6), 2);
        due("judge(2), not reached", y.judge(2), 3);
        y.setMost(1);
        due("judge(7), too many and excluding", y.judge(7), 1);
        due("judge(6), all three", y.judge(6), 1);
        due("judge(3), too many alone", y.judge(3), 1);
        due("judge(1)", y.judge(1), 0);
        due("judge(0)", y.judge(0), 3);
        y.setMost(2);
        due("judge(6), as many as the most", y.judge(6), 2);
        due("judge(5)", y.judge(5), 0);
    }

    private static void plan() {
        part("Promise 20:");
        sentence("`plan`: a set of sites that there are, as bits");
        for (int what = 0; what < 5; what++) {
            int asked = what;
            refused(Boundary::rich, "plan(%, " + what + ")", (s, plan) -> s.plan(plan, asked), BAD_VALUE,
                -1, 8, 128, LEAST, GREATEST);
        }
        due("plan(7, 1), all", rich().plan(7, 1), 44);
        due("plan(0, 1), none", rich().plan(0, 1), 0);
        sentence("0 for its cost (also if it is not allowed)");
        SiteCuts x = rich();
        x.setMost(1);
        due("plan(7, 0), too many that exclude one another", x.plan(7, 0), 51);
        due("plan(7, 2)", x.plan(7, 2), 7);
        sentence("3 for its guess by the cuts (also if it does not fulfil them)");
        due("plan(0, 3), it fulfils no ray", x.plan(0, 3), 16);
        due("plan(7, 3), not allowed", x.plan(7, 3), 51);
        x.drop(2);
        due("plan(0, 3), rays guess nothing", x.plan(0, 3), 0);
        due("plan(1, 3), rays guess nothing", x.plan(1, 3), 10);
        x.undo();
        due("plan(0, 3) without cuts", three().plan(0, 3), 0);
        due("plan(7, 3) without cuts", three().plan(7, 3), 44);
        sentence("4 for the rays that it does not fulfil");
        due("plan(0, 4)", x.plan(0, 4), 2);
        due("plan(1, 4)", x.plan(1, 4), 1);
        due("plan(4, 4)", x.plan(4, 4), 0);
        due("plan(0, 4) without cuts", three().plan(0, 4), 0);
        due("plan(0, 4), price cuts are no rays", filled(40).plan(0, 4), 0);
        sentence("Returns the number; BAD_VALUE; NOT_POSSIBLE (what is 0 or 2) if it does not reach all customers.");
        refused(Boundary::rich, "plan(3, %)", (s, what) -> s.plan(3, what), BAD_VALUE, -1, 5, LEAST, GREATEST);
        refused(Boundary::rich, "plan(0, %)", (s, what) -> s.plan(0, what), BAD_VALUE, -1, 5);
        refused(Boundary::rich, "plan(%, 0)", (s, plan) -> s.plan(plan, 0), NOT_POSSIBLE, 0, 1, 2);
        refused(Boundary::rich, "plan(%, 2)", (s, plan) -> s.plan(plan, 2), NOT_POSSIBLE, 0, 1, 2);
        due("plan(1, 1)", rich().plan(1, 1), 10);
        due("plan(1, 3)", rich().plan(1, 3), 26);
        due("plan(0, 0) without customers", new SiteCuts().plan(0, 0), 0);
    }

    private static void serves() {
        part("Promise 21:");
        sentence("`plan`: a set of sites that there are, as bits");
        refused(Boundary::rich, "serves(%, 0)", (s, plan) -> s.serves(plan, 0), BAD_VALUE,
            -1, 8, 128, LEAST, GREATEST);
        sentence("`customer`: a customer");
        refused(Boundary::rich, "serves(7, %)", (s, customer) -> s.serves(7, customer), UNKNOWN,
            -1, 2, 7, 8, LEAST, GREATEST);
        refused(Boundary::whole, "serves(127, %)", (s, customer) -> s.serves(127, customer), UNKNOWN, -1, 8);
        due("serves(7, 1), the last", rich().serves(7, 1), 2);
        sentence("that with the least price of a route, of several the lowest one");
        SiteCuts x = map(new int[] {0, 0, 0, 0}, new int[] {1}, new int[][] {{100}, {99}, {5}, {5}});
        due("serves(15, 0)", x.serves(15, 0), 2);
        due("serves(11, 0)", x.serves(11, 0), 3);
        due("serves(3, 0), the dearest price", x.serves(3, 0), 1);
        x.setRoute(3, 0, 4);
        due("serves(15, 0), one less", x.serves(15, 0), 3);
        x.setRoute(1, 0, 0);
        x.setRoute(3, 0, 0);
        due("serves(15, 0), both for nothing", x.serves(15, 0), 1);
        sentence("NONE if it is not reached");
        due("serves(0, 0), no site", x.serves(0, 0), NONE);
        due("serves(1, 0), a site without a route", x.serves(1, 0), NONE);
    }

    private static void cut() {
        part("Promise 22:");
        sentence("`cut`: a cut");
        refused(SiteCuts::new, "cut(%, 0)", (s, cut) -> s.cut(cut, 0), UNKNOWN, -1, 0, 1);
        refused(Boundary::rich, "cut(%, 0)", (s, cut) -> s.cut(cut, 0), UNKNOWN, -1, 3, 39, 40, LEAST, GREATEST);
        refused(() -> filled(40), "cut(%, 4)", (s, cut) -> s.cut(cut, 4), UNKNOWN, -1, 40);
        sentence("1 for its customer (NONE of a price cut)");
        refused(Boundary::rich, "cut(2, 1)", s -> s.cut(2, 1), NONE);
        due("cut(0, 1), the first customer", rich().cut(0, 1), 0);
        SiteCuts last = bare(1, 8);
        for (int customer = 0; customer < 7; customer++) {
            last.setRoute(0, customer, 1);
        }
        last.solve();
        due("cut(1, 1), the last customer", last.cut(1, 1), 7);
        sentence("2 for how many sites a ray asks for (1), or for the value of a price cut for the plan "
            + "without any site");
        due("cut(0, 2), a ray of two sites", rich().cut(0, 2), 1);
        due("cut(1, 2), a ray without sites", last.cut(1, 2), 1);
        due("cut(2, 2)", rich().cut(2, 2), 16);
        due("cut(0, 2), a price cut of 0", filled(1).cut(0, 2), 0);
        sentence("3 for how many feasible plans do not fulfil it (of a price cut: for which its value is "
            + "more than what "
            + "their routes cost)");
        for (int cut = 0; cut < 3; cut++) {
            due("cut(" + cut + ", 3)", rich().cut(cut, 3), 0);
        }
        due("cut(1, 3), a ray that no plan fulfils", last.cut(1, 3), 0);
        sentence("4 for how many feasible plans it is tight (a ray: just one of its sites is in the plan; a price cut: "
            + "its value is what their routes cost)");
        SiteCuts x = bothForNothing();
        due("cut(0, 4), two of its sites", x.cut(0, 4), 0);
        due("cut(1, 4), just one", x.cut(1, 4), 1);
        due("cut(1, 4), no feasible plan", last.cut(1, 4), 0);
        SiteCuts y = with(Boundary::twins, s -> s.solve());
        read(y, "10");
        read(y, "8");
        due("cut(0, 4), 1 and 2 and not 3", y.cut(0, 4), 2);
        due("cut(1, 4), all", y.cut(1, 4), 3);
        due("cut(2, 4), 1 and 2; one less for 3", y.cut(2, 4), 2);
        due("cut(3, 4), one less", y.cut(3, 4), 0);
        y.exclude(0, 1, true);
        due("cut(1, 4), the feasible ones", y.cut(1, 4), 2);
        sentence("Returns the number; UNKNOWN; BAD_VALUE.");
        refused(Boundary::rich, "cut(0, %)", (s, what) -> s.cut(0, what), BAD_VALUE, -1, 5, LEAST, GREATEST);
        refused(Boundary::rich, "cut(2, %)", (s, what) -> s.cut(2, what), BAD_VALUE, -1, 5, LEAST, GREATEST);
        refused(Boundary::rich, "cut(3, %)", (s, what) -> s.cut(3, what), UNKNOWN, -1, 5);
    }

    private static void weight() {
        part("Promise 23:");
        sentence("`cut`: a cut");
        refused(Boundary::rich, "weight(%, 0)", (s, cut) -> s.weight(cut, 0), UNKNOWN, -1, 3, 39, 40, LEAST, GREATEST);
        refused(() -> filled(40), "weight(%, 0)", (s, cut) -> s.weight(cut, 0), UNKNOWN, -1, 40);
        sentence("`site`: a site");
        refused(Boundary::rich, "weight(0, %)", (s, site) -> s.weight(0, site), UNKNOWN, -1, 3, 6, 7, LEAST, GREATEST);
        refused(Boundary::rich, "weight(2, %)", (s, site) -> s.weight(2, site), UNKNOWN, -1, 3, 6, 7, LEAST, GREATEST);
        sentence("Returns of a ray 1 if the site is one that it asks for, otherwise 0; of a price cut by how much its "
            + "value becomes less by this site");
        SiteCuts x = map(new int[] {0, 0, 0, 0, 0}, new int[] {20}, new int[][] {{0}, {98}, {99}, {100}, {50}});
        x.step();
        int[] ray = {1, 1, 1, 0, 1};
        read(x, "99");
        int[] ninetyNine = {1980, 20, 0, 0, 980};
        read(x, "0");
        for (int site = 0; site < 5; site++) {
            due("weight(0, " + site + ")", x.weight(0, site), ray[site]);
            due("weight(1, " + site + ")", x.weight(1, site), ninetyNine[site]);
            due("weight(2, " + site + ")", x.weight(2, site), 0);
        }
    }

    private static void value() {
        part("Promise 24:");
        sentence("`cut`: a cut");
        refused(Boundary::rich, "value(%, 0)", (s, cut) -> s.value(cut, 0), UNKNOWN, -1, 3, 39, 40, LEAST, GREATEST);
        refused(() -> filled(40), "value(%, 0)", (s, cut) -> s.value(cut, 0), UNKNOWN, -1, 40);
        sentence("`plan`: a set of sites that there are, as bits");
        refused(Boundary::rich, "value(0, %)", (s, plan) -> s.value(0, plan), BAD_VALUE, -1, 8, 128, LEAST, GREATEST);
        refused(Boundary::rich, "value(2, %)", (s, plan) -> s.value(2, plan), BAD_VALUE, -1, 8, 128, LEAST, GREATEST);
        sentence("Returns of a ray how many of its sites are in the plan; of a price cut its value for the "
            + "plan, plus 1000000");
        int[] twenty = {20, 20, 20, 20, 20, 20, 20, 20};
        SiteCuts x = map(new int[] {0, 0, 0, 0, 0, 0, 0}, twenty, new int[7][8]);
        x.step();
        due("value(0, 0), a ray, none", x.value(0, 0), 0);
        due("value(0, 127), a ray, all", x.value(0, 127), 7);
        due("value(0, 64), a ray, one", x.value(0, 64), 1);
        read(x, "99" + ",99".repeat(7));
        due("value(1, 0), the greatest that there is", x.value(1, 0), 1000000 + 8 * 20 * 99);
        due("value(1, 64), 0", x.value(1, 64), 1000000);
        due("value(1, 127), the least that there is", x.value(1, 127), 1000000 - 6 * 8 * 20 * 99);
        due("value(1, 128)", x.value(1, 128), BAD_VALUE);
    }

    private static void master() {
        part("Promise 25:");
        sentence("Returns the number; BAD_VALUE; NONE if there is no master plan (0, 1, 4) or no best plan (2, 3, 4).");
        refused(Boundary::rich, "master(%)", (s, what) -> s.master(what), BAD_VALUE, -1, 5, LEAST, GREATEST);
        refused(SiteCuts::new, "master(%), no best plan", (s, what) -> s.master(what), NONE, 2, 3, 4);
        refused(Boundary::three, "master(%), no best plan", (s, what) -> s.master(what), NONE, 2, 3, 4);
        refused(Boundary::hopeless, "master(%), neither", (s, what) -> s.master(what), NONE, 0, 1, 2, 3, 4);
        due("master(0) without a best plan", three().master(0), 0);
        due("master(1) without a best plan", three().master(1), 0);
        sentence("4 for the gap (upper less lower bound)");
        SiteCuts x = rich();
        due("master(4), solved", x.master(4), 0);
        x.drop(2);
        due("master(4), without the price cut", x.master(4), 16);
        x.drop(0);
        x.drop(0);
        due("master(4), without cuts", x.master(4), 30);
        sentence("2 for the best plan, 3 for the upper bound");
        due("master(2), it stays", x.master(2), 3);
        due("master(3), it stays", x.master(3), 30);
    }

    private static void byAll() {
        part("Promise 26:");
        sentence("the feasible one with the least cost, of several the one that is the least number");
        SiteCuts x = map(new int[] {5, 4, 3, 2}, new int[] {1}, new int[][] {{5}, {5}, {6}, {7}});
        due("byAll(0), three of the same cost", x.byAll(0), 2);
        due("byAll(1)", x.byAll(1), 9);
        x.setPrice(1, 5);
        due("byAll(0), 4 and 8 of the same cost", x.byAll(0), 4);
        x.setPrice(3, 1);
        due("byAll(0), one less", x.byAll(0), 8);
        x.setPrice(0, 0);
        due("byAll(0), the first", x.byAll(0), 1);
        due("byAll(0) without customers", bare(7, 0).byAll(0), 0);
        sentence("Returns the number; BAD_VALUE; NONE (what is 0 or 1) if there is none.");
        refused(Boundary::rich, "byAll(%)", (s, what) -> s.byAll(what), BAD_VALUE, -1, 3, LEAST, GREATEST);
        refused(() -> bare(0, 1), "byAll(%), no site", (s, what) -> s.byAll(what), NONE, 0, 1);
        refused(() -> bare(7, 8), "byAll(%), no route", (s, what) -> s.byAll(what), NONE, 0, 1);
        due("byAll(2), there is none", bare(7, 8).byAll(2), 0);
        Start torn = () -> with(Boundary::bothForNothing, s -> s.exclude(0, 1, true));
        refused(torn, "byAll(%), none is allowed", (s, what) -> s.byAll(what), NONE, 0, 1);
        due("byAll(2), none is allowed", torn.make().byAll(2), 0);
        due("byAll(2), all but the empty one", whole().byAll(2), 127);
        due("byAll(2) without customers", bare(7, 0).byAll(2), 128);
    }

    private static void count() {
        part("Promise 27:");
        sentence("Returns the number; BAD_VALUE.");
        refused(Boundary::rich, "count(%)", (s, what) -> s.count(what), BAD_VALUE, -1, 10, LEAST, GREATEST);
        SiteCuts x = filled(with(Boundary::whole, s -> s.step()), "0" + ",0".repeat(7), 39);
        for (int site = 0; site < 7; site++) {
            for (int other = 0; other < site; other++) {
                x.exclude(site, other, true);
            }
        }
        write(x, "7".repeat(60));
        int[] greatest = {7, 8, 56, 7, 21, 40, 1, 1, 4, 60};
        for (int what = 0; what < greatest.length; what++) {
            due("count(" + what + ")", x.count(what), greatest[what]);
        }
        sentence("6 for rays, 7 for steps so far (those of solve() too)");
        due("count(6)", rich().count(6), 2);
        due("count(6), price cuts are no rays", filled(40).count(6), 0);
        due("count(7)", rich().count(7), 4);
        due("count(7), a step more", with(Boundary::rich, s -> s.step()).count(7), 5);
        due("count(7), a solve() more", with(Boundary::rich, s -> s.solve()).count(7), 5);
        due("count(7), a step that is not possible", with(Boundary::hopeless, s -> s.step()).count(7), 2);
        due("count(7), no room", with(() -> filled(40), s -> s.step()).count(7), 0);
        due("count(7), readCut() is no step", filled(40).count(7), 0);
    }
}
