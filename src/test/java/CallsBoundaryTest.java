import java.io.IOException;

/** The boundary cases of the calls that change something: promises 1 to 18. */
public final class CallsBoundaryTest extends Boundary {
    public static void main(String[] args) throws IOException {
        begin();
        newObject();
        addSite();
        addCustomer();
        setPrice();
        setDemand();
        setRoute();
        setMost();
        exclude();
        step();
        solve();
        readCut();
        drop();
        dropLoose();
        type();
        clearText();
        undo();
        keep();
        restore();
        end();
    }

    private static void newObject() {
        part("Promise 1:");
        sentence("Creates a map without sites and customers.");
        SiteCuts x = new SiteCuts();
        for (int what = 0; what <= 9; what++) {
            due("count(" + what + ")", x.count(what), what == 3 ? 7 : 0);
        }
        int[] master = {0, 0, NONE, NONE, NONE};
        for (int what = 0; what < master.length; what++) {
            due("master(" + what + ")", x.master(what), master[what]);
        }
        int[] byAll = {0, 0, 1};
        for (int what = 0; what < byAll.length; what++) {
            due("byAll(" + what + ")", x.byAll(what), byAll[what]);
        }
        for (int what = 0; what < 5; what++) {
            due("plan(0, " + what + ")", x.plan(0, what), 0);
        }
        due("setPrice(0, 1)", x.setPrice(0, 1), UNKNOWN);
        due("setDemand(0, 1)", x.setDemand(0, 1), UNKNOWN);
        due("setRoute(0, 0, 1)", x.setRoute(0, 0, 1), UNKNOWN);
        due("exclude(0, 1, true)", x.exclude(0, 1, true), UNKNOWN);
        due("drop(0)", x.drop(0), UNKNOWN);
        due("serves(0, 0)", x.serves(0, 0), UNKNOWN);
        due("weight(0, 0)", x.weight(0, 0), UNKNOWN);
        due("value(0, 0)", x.value(0, 0), UNKNOWN);
        due("cut(0, 0)", x.cut(0, 0), UNKNOWN);
        due("judge(0)", x.judge(0), 0);
        due("judge(1)", x.judge(1), BAD_VALUE);
        due("solve()", x.solve(), NOT_POSSIBLE);
        due("readCut()", x.readCut(), NOT_POSSIBLE);
        due("dropLoose()", x.dropLoose(), NONE);
        due("restore()", x.restore(), NONE);
    }

    private static void addSite() {
        part("Promise 2:");
        sentence("Adds a site, without routes.");
        SiteCuts x = bare(0, 2);
        due("addSite(1)", x.addSite(1), 0);
        x.setRoute(0, 0, 5);
        x.setRoute(0, 1, 5);
        due("addSite(1)", x.addSite(1), 1);
        due("count(2)", x.count(2), 2);
        due("judge(2)", x.judge(2), 3);
        x.setRoute(1, 1, 7);
        x.exclude(0, 1, true);
        x.undo();
        x.undo();
        x.undo();
        due("addSite(1), in place of one that was undone", x.addSite(1), 1);
        due("setRoute(1, 1, 100), so already", x.setRoute(1, 1, 100), NONE);
        due("exclude(1, 0, false), so already", x.exclude(1, 0, false), NONE);
        sentence("This is an act.");
        act(Boundary::three, "addSite(1)", s -> s.addSite(1), 3);
        act(SiteCuts::new, "addSite(1)", s -> s.addSite(1), 0);
        sentence("`price`: 0 to 999");
        due("addSite(0)", three().addSite(0), 3);
        due("addSite(999)", three().addSite(999), 3);
        refused(Boundary::rich, "addSite(%)", (s, price) -> s.addSite(price), BAD_VALUE, -1, 1000, LEAST, GREATEST);
        sentence("FULL if there are 7");
        act(() -> bare(6, 1), "addSite(1), the seventh", s -> s.addSite(1), 6);
        refused(Boundary::whole, "addSite(%)", (s, price) -> s.addSite(price), FULL, 0, 5, 999);
        refused(Boundary::whole, "addSite(%)", (s, price) -> s.addSite(price), BAD_VALUE, -1, 1000);
    }

    private static void addCustomer() {
        part("Promise 3:");
        sentence("Adds a customer, without routes.");
        SiteCuts x = bare(2, 0);
        due("addCustomer(1)", x.addCustomer(1), 0);
        x.setRoute(0, 0, 5);
        x.setRoute(1, 0, 5);
        due("addCustomer(1)", x.addCustomer(1), 1);
        due("count(2)", x.count(2), 2);
        due("judge(3)", x.judge(3), 3);
        x.setRoute(1, 1, 7);
        x.undo();
        x.undo();
        due("addCustomer(1), in place of one that was undone", x.addCustomer(1), 1);
        due("setRoute(1, 1, 100), so already", x.setRoute(1, 1, 100), NONE);
        sentence("This is an act.");
        act(Boundary::three, "addCustomer(1)", s -> s.addCustomer(1), 2);
        act(SiteCuts::new, "addCustomer(1)", s -> s.addCustomer(1), 0);
        sentence("`demand`: 1 to 20");
        due("addCustomer(1)", three().addCustomer(1), 2);
        due("addCustomer(20)", three().addCustomer(20), 2);
        refused(Boundary::rich, "addCustomer(%)", (s, demand) -> s.addCustomer(demand), BAD_VALUE,
            0, -1, 21, LEAST, GREATEST);
        sentence("FULL if there are 8");
        act(() -> bare(1, 7), "addCustomer(1), the eighth", s -> s.addCustomer(1), 7);
        refused(Boundary::whole, "addCustomer(%)", (s, demand) -> s.addCustomer(demand), FULL, 1, 5, 20);
        refused(Boundary::whole, "addCustomer(%)", (s, demand) -> s.addCustomer(demand), BAD_VALUE, 0, 21);
    }

    private static void setPrice() {
        part("Promise 4:");
        sentence("This is an act.");
        act(Boundary::rich, "setPrice(0, 0)", s -> s.setPrice(0, 0), 10);
        sentence("`site`: a site");
        due("setPrice(0, 1), the first", rich().setPrice(0, 1), 10);
        due("setPrice(2, 1), the last", rich().setPrice(2, 1), 30);
        refused(Boundary::rich, "setPrice(%, 1)", (s, site) -> s.setPrice(site, 1), UNKNOWN,
            -1, 3, 6, 7, LEAST, GREATEST);
        refused(Boundary::whole, "setPrice(%, 1)", (s, site) -> s.setPrice(site, 1), UNKNOWN, -1, 7);
        sentence("`price`: 0 to 999");
        SiteCuts x = rich();
        due("setPrice(1, 0)", x.setPrice(1, 0), 4);
        due("setPrice(1, 999)", x.setPrice(1, 999), 0);
        due("plan(2, 1)", x.plan(2, 1), 999);
        refused(Boundary::rich, "setPrice(1, %)", (s, price) -> s.setPrice(1, price), BAD_VALUE,
            -1, 1000, LEAST, GREATEST);
        sentence("Returns the previous price; UNKNOWN; BAD_VALUE; NONE if it is so already.");
        due("setPrice(1, 1)", x.setPrice(1, 1), 999);
        due("setPrice(1, 0)", x.setPrice(1, 0), 1);
        due("setPrice(1, 0), so already", x.setPrice(1, 0), NONE);
        refused(Boundary::rich, "setPrice(2, 30), so already", s -> s.setPrice(2, 30), NONE);
        refused(Boundary::rich, "setPrice(3, -1)", s -> s.setPrice(3, -1), UNKNOWN);
    }

    private static void setDemand() {
        part("Promise 5:");
        sentence("This is an act.");
        act(Boundary::rich, "setDemand(1, 6)", s -> s.setDemand(1, 6), 5);
        sentence("`customer`: a customer");
        due("setDemand(0, 1), the first", rich().setDemand(0, 1), 2);
        due("setDemand(1, 1), the last", rich().setDemand(1, 1), 5);
        refused(Boundary::rich, "setDemand(%, 1)", (s, customer) -> s.setDemand(customer, 1), UNKNOWN,
            -1, 2, 7, 8, LEAST, GREATEST);
        refused(Boundary::whole, "setDemand(%, 2)", (s, customer) -> s.setDemand(customer, 2), UNKNOWN, -1, 8);
        sentence("`demand`: 1 to 20");
        SiteCuts x = rich();
        due("setDemand(0, 20)", x.setDemand(0, 20), 2);
        due("setDemand(0, 1)", x.setDemand(0, 1), 20);
        refused(Boundary::rich, "setDemand(0, %)", (s, demand) -> s.setDemand(0, demand), BAD_VALUE,
            0, -1, 21, LEAST, GREATEST);
        sentence("Returns the previous demand; UNKNOWN; BAD_VALUE; NONE if it is so already.");
        due("setDemand(0, 1), so already", x.setDemand(0, 1), NONE);
        due("setDemand(0, 2)", x.setDemand(0, 2), 1);
        refused(Boundary::rich, "setDemand(1, 5), so already", s -> s.setDemand(1, 5), NONE);
        refused(Boundary::rich, "setDemand(2, 0)", s -> s.setDemand(2, 0), UNKNOWN);
    }

    private static void setRoute() {
        part("Promise 6:");
        sentence("This is an act.");
        act(Boundary::rich, "setRoute(0, 1, 99)", s -> s.setRoute(0, 1, 99), 100);
        act(Boundary::rich, "setRoute(0, 0, 100)", s -> s.setRoute(0, 0, 100), 3);
        sentence("`site`: a site");
        due("setRoute(0, 0, 1), the first", rich().setRoute(0, 0, 1), 3);
        due("setRoute(2, 0, 9), the last", rich().setRoute(2, 0, 9), 1);
        refused(Boundary::rich, "setRoute(%, 0, 1)", (s, site) -> s.setRoute(site, 0, 1), UNKNOWN,
            -1, 3, 6, 7, LEAST, GREATEST);
        refused(Boundary::whole, "setRoute(%, 0, 1)", (s, site) -> s.setRoute(site, 0, 1), UNKNOWN, -1, 7);
        sentence("`customer`: a customer");
        due("setRoute(2, 1, 9), the last", rich().setRoute(2, 1, 9), 1);
        refused(Boundary::rich, "setRoute(0, %, 1)", (s, customer) -> s.setRoute(0, customer, 1), UNKNOWN,
            -1, 2, 7, 8, LEAST, GREATEST);
        refused(Boundary::whole, "setRoute(0, %, 1)", (s, customer) -> s.setRoute(0, customer, 1), UNKNOWN, -1, 8);
        sentence("`price`: 0 to 99, or 100: then there is none");
        SiteCuts x = whole();
        due("setRoute(6, 7, 99)", x.setRoute(6, 7, 99), (6 * 5 + 7 * 3 + 6 * 7) % 11 * 9);
        due("serves(64, 7)", x.serves(64, 7), 6);
        due("setRoute(6, 7, 0)", x.setRoute(6, 7, 0), 99);
        due("serves(64, 7)", x.serves(64, 7), 6);
        due("count(2)", x.count(2), 56);
        due("setRoute(6, 7, 100)", x.setRoute(6, 7, 100), 0);
        due("serves(64, 7)", x.serves(64, 7), NONE);
        due("count(2)", x.count(2), 55);
        refused(Boundary::rich, "setRoute(0, 0, %)", (s, price) -> s.setRoute(0, 0, price), BAD_VALUE,
            -1, 101, LEAST, GREATEST);
        sentence("Returns the previous price, 100 if there was none; UNKNOWN; BAD_VALUE; NONE if it is so already.");
        due("setRoute(6, 7, 100), so already", x.setRoute(6, 7, 100), NONE);
        due("setRoute(6, 7, 0)", x.setRoute(6, 7, 0), 100);
        due("setRoute(6, 7, 0), so already", x.setRoute(6, 7, 0), NONE);
        refused(Boundary::rich, "setRoute(1, 0, 100), so already", s -> s.setRoute(1, 0, 100), NONE);
        refused(Boundary::rich, "setRoute(1, 1, 2), so already", s -> s.setRoute(1, 1, 2), NONE);
        refused(Boundary::rich, "setRoute(3, 2, 101)", s -> s.setRoute(3, 2, 101), UNKNOWN);
    }

    private static void setMost() {
        part("Promise 7:");
        sentence("This is an act.");
        act(Boundary::rich, "setMost(2)", s -> s.setMost(2), 3);
        sentence("`sites`: 1 to 7");
        for (int most = 1; most <= 6; most++) {
            SiteCuts x = bare(7, 0);
            due("setMost(" + most + ")", x.setMost(most), 7);
            due("count(3)", x.count(3), most);
            due("judge(), as many", x.judge((1 << most) - 1), 0);
            due("judge(), one more", x.judge((2 << most) - 1), 1);
            due("setMost(7)", x.setMost(7), most);
        }
        refused(Boundary::rich, "setMost(%)", (s, most) -> s.setMost(most), BAD_VALUE, 0, -1, 8, LEAST, GREATEST);
        due("setMost(7), more than there are sites", rich().setMost(7), 3);
        sentence("Returns the previous one; BAD_VALUE; NONE if it is so already.");
        refused(SiteCuts::new, "setMost(7), so already", s -> s.setMost(7), NONE);
        refused(Boundary::rich, "setMost(3), so already", s -> s.setMost(3), NONE);
    }

    private static void exclude() {
        part("Promise 8:");
        sentence("This is an act.");
        act(Boundary::rich, "exclude(2, 1, true)", s -> s.exclude(2, 1, true), 2);
        act(Boundary::rich, "exclude(2, 0, false)", s -> s.exclude(2, 0, false), 0);
        sentence("`site`: a site");
        refused(Boundary::rich, "exclude(%, 1, true)", (s, site) -> s.exclude(site, 1, true), UNKNOWN,
            -1, 3, 6, 7, 32, LEAST, GREATEST);
        refused(Boundary::rich, "exclude(%, 1, false)", (s, site) -> s.exclude(site, 1, false), UNKNOWN, -1, 3);
        refused(Boundary::whole, "exclude(%, 1, true)", (s, site) -> s.exclude(site, 1, true), UNKNOWN, -1, 7);
        sentence("`other`: a site");
        refused(Boundary::rich, "exclude(1, %, true)", (s, other) -> s.exclude(1, other, true), UNKNOWN,
            -1, 3, 6, 7, 32, LEAST, GREATEST);
        refused(Boundary::rich, "exclude(1, %, false)", (s, other) -> s.exclude(1, other, false), UNKNOWN, -1, 3);
        refused(Boundary::whole, "exclude(1, %, true)", (s, other) -> s.exclude(1, other, true), UNKNOWN, -1, 7);
        sentence("Returns how many sites the first one excludes then; UNKNOWN; BAD_VALUE if both are the same; "
            + "NONE if it is so already.");
        SiteCuts x = bare(7, 0);
        for (int other = 0; other < 6; other++) {
            due("exclude(6, " + other + ", true)", x.exclude(6, other, true), other + 1);
            due("exclude(" + other + ", 6, true), so already", x.exclude(other, 6, true), NONE);
        }
        due("exclude(0, 1, true)", x.exclude(0, 1, true), 2);
        for (int other = 5; other >= 0; other--) {
            int left = other == 1 || other == 0 ? 1 : 0;
            due("exclude(" + other + ", 6, false)", x.exclude(other, 6, false), left);
            due("exclude(6, " + other + ", false), so already", x.exclude(6, other, false), NONE);
        }
        due("exclude(1, 0, false), the last pair", x.exclude(1, 0, false), 0);
        refused(Boundary::rich, "exclude(%, %, true)", (s, site) -> s.exclude(site, site, true), BAD_VALUE, 0, 1, 2);
        refused(Boundary::rich, "exclude(%, %, false)", (s, site) -> s.exclude(site, site, false), BAD_VALUE, 0, 2);
        refused(Boundary::rich, "exclude(%, %, true)", (s, site) -> s.exclude(site, site, true), UNKNOWN, -1, 3);
        refused(Boundary::rich, "exclude(0, 2, true), so already", s -> s.exclude(0, 2, true), NONE);
        refused(Boundary::rich, "exclude(1, 2, false), so already", s -> s.exclude(1, 2, false), NONE);
    }

    private static void step() {
        part("Promise 9:");
        sentence("This is an act, also if nothing is added.");
        act(Boundary::three, "step(), a ray", s -> s.step(), 0);
        act(() -> with(() -> with(Boundary::three, s -> s.step()), s -> s.step()), "step(), a price cut",
            s -> s.step(), 1);
        act(Boundary::rich, "step(), nothing is added", s -> s.step(), 2);
        due("count(7), a step that adds nothing", with(Boundary::rich, s -> s.step()).count(7), 5);
        sentence("NOT_POSSIBLE if there is no customer");
        refused(SiteCuts::new, "step(), no site either", s -> s.step(), NOT_POSSIBLE);
        refused(() -> bare(7, 0), "step(), seven sites", s -> s.step(), NOT_POSSIBLE);
        due("step(), a customer without sites", bare(0, 1).step(), 0);
        sentence("or no allowed plan that fulfils all rays");
        refused(Boundary::hopeless, "step(), a ray without sites", s -> s.step(), NOT_POSSIBLE);
        refused(() -> with(Boundary::bothForNothing, s -> s.setMost(1)), "step(), one site too few",
            s -> s.step(), NOT_POSSIBLE);
        refused(() -> with(Boundary::bothForNothing, s -> s.exclude(0, 1, true)), "step(), both exclude one another",
            s -> s.step(), NOT_POSSIBLE);
        due("step(), a most that is just enough", with(Boundary::bothForNothing, s -> s.setMost(2)).step(), 2);
        sentence("FULL if a cut would have to be added and there are 40");
        refused(() -> filled(40), "step(), a ray", s -> s.step(), FULL);
        Start reached = () -> filled(with(Boundary::twins, s -> s.step()), "0", 39);
        refused(reached, "step(), a price cut that would make the first best plan", s -> s.step(), FULL);
        due("step(), a ray, 39", filled(39).step(), 0);
        due("step(), a price cut, 39", with(reached, s -> s.drop(5)).step(), 1);
        Start solved = () -> filled(with(Boundary::twins, s -> s.solve()), "0", 38);
        due("count(5)", solved.make().count(5), 40);
        act(solved, "step(), solved, nothing has to be added", s -> s.step(), 2);
        Start byText = () -> filled(with(Boundary::twins, s -> s.step()), "9", 39);
        act(byText, "step(), solved by the cuts of texts", s -> s.step(), 2);
        due("master(2)", with(byText, s -> s.step()).master(2), 1);
    }

    private static void solve() {
        part("Promise 10:");
        sentence("Makes steps until all is solved, or no step is possible any more (what was added stays then).");
        SiteCuts x = rich();
        due("step(), all is solved", x.step(), 2);
        due("count(7)", x.count(7), 5);
        Start torn = () -> {
            SiteCuts s = map(new int[] {0, 0}, new int[] {1, 1}, new int[][] {{0, 100}, {100, 0}});
            s.exclude(0, 1, true);
            return s;
        };
        SiteCuts y = torn.make();
        due("solve(), then no step is possible", y.solve(), 2);
        due("count(6), the rays stay", y.count(6), 2);
        due("count(7), the last one was no step", y.count(7), 2);
        due("master(0)", y.master(0), NONE);
        due("master(2)", y.master(2), NONE);
        due("count(6) of one customer that no site reaches", with(() -> bare(0, 1), s -> s.solve()).count(6), 1);
        sentence("This is one act.");
        act(Boundary::three, "solve()", s -> s.solve(), 3);
        act(Boundary::rich, "solve(), nothing is added", s -> s.solve(), 0);
        act(torn, "solve(), then no step is possible", s -> s.solve(), 2);
        sentence("Returns how many cuts were added");
        due("solve() from the start", three().solve(), 3);
        due("solve() behind a step", with(Boundary::three, s -> s.step()).solve(), 2);
        SiteCuts whole = whole();
        int added = whole.solve();
        due("count(5)", whole.count(5), added);
        due("count(7)", whole.count(7), added + 1);
        due("solve(), again", whole.solve(), 0);
        due("master(3)", whole.master(3), whole.byAll(1));
        sentence("NOT_POSSIBLE if there is no customer, or the first step is not possible");
        refused(SiteCuts::new, "solve(), no site either", s -> s.solve(), NOT_POSSIBLE);
        refused(() -> bare(7, 0), "solve(), seven sites", s -> s.solve(), NOT_POSSIBLE);
        refused(Boundary::hopeless, "solve(), a ray without sites", s -> s.solve(), NOT_POSSIBLE);
        refused(() -> with(torn, s -> s.solve()), "solve(), again", s -> s.solve(), NOT_POSSIBLE);
        sentence("FULL if more than 40 cuts would be needed");
        Start thirtySeven = () -> filled(three(), "0,0", 37);
        act(thirtySeven, "solve(), just 40", s -> s.solve(), 3);
        due("count(5)", with(thirtySeven, s -> s.solve()).count(5), 40);
        due("count(7)", with(thirtySeven, s -> s.solve()).count(7), 4);
        refused(() -> filled(three(), "0,0", 38), "solve(), 41, the last a price cut", s -> s.solve(), FULL);
        refused(() -> filled(three(), "0,0", 39), "solve(), 42, a ray more than 40", s -> s.solve(), FULL);
        refused(() -> filled(three(), "0,0", 40), "solve(), 43", s -> s.solve(), FULL);
        due("solve(), solved with 40", filled(with(Boundary::three, s -> s.solve()), "0,0", 37).solve(), 0);
        act(() -> filled(torn.make(), "0,0", 38), "solve(), 40 and no step is possible", s -> s.solve(), 2);
        refused(() -> filled(torn.make(), "0,0", 39), "solve(), 41 ahead of no step", s -> s.solve(), FULL);
        SiteCuts stubborn = stubborn(4);
        due("solve(), 40 from the start", stubborn.solve(), 40);
        due("count(7)", stubborn.count(7), 41);
        due("master(3)", stubborn.master(3), stubborn.byAll(1));
        due("solve(), 41 from the start", stubborn(1).solve(), FULL);
        refused(() -> with(() -> stubborn(1), s -> s.step()), "solve(), 40 more behind a step", s -> s.solve(), FULL);
    }

    private static void readCut() {
        part("Promise 11:");
        sentence("Adds the price cut of the text, which stays.");
        SiteCuts x = rich();
        due("readCut()", x.readCut(), 3);
        due("count(9)", x.count(9), 3);
        due("readCut(), again", x.readCut(), 4);
        due("cut(4, 2)", x.cut(4, 2), 16);
        due("master(2), the best plan stays", x.master(2), 3);
        due("count(7), it is no step", x.count(7), 4);
        sentence("This is an act.");
        act(Boundary::rich, "readCut()", s -> s.readCut(), 3);
        sentence("NOT_POSSIBLE if there is no customer");
        refused(SiteCuts::new, "readCut() of nothing", s -> s.readCut(), NOT_POSSIBLE);
        refused(() -> write(bare(2, 0), "5"), "readCut() of 5", s -> s.readCut(), NOT_POSSIBLE);
        due("readCut() without sites", read(bare(0, 1), "5"), 0);
        sentence("-100 minus the fault of the text if it has one (which is an error)");
        String[] marked = {"^", "3^", "3,^", "0^3,2", "3,2^,", "3,20^0", "3^;2", "99^" + "9".repeat(58)};
        for (String text : marked) {
            refused(() -> write(rich(), text.replace("^", "")), "readCut() of " + text, s -> s.readCut(),
                -100 - text.indexOf('^'));
        }
        sentence("FULL if there are 40");
        act(() -> filled(39), "readCut(), the 40th", s -> s.readCut(), 39);
        refused(() -> filled(40), "readCut(), the 41st", s -> s.readCut(), FULL);
        refused(() -> write(filled(40), "0,0"), "readCut() of a fault", s -> s.readCut(), -101);
        due("readCut() behind drop()", with(() -> filled(40), s -> s.drop(0)).readCut(), 39);
    }

    private static void drop() {
        part("Promise 12:");
        sentence("This is an act.");
        act(Boundary::rich, "drop(2)", s -> s.drop(2), 2);
        act(() -> filled(40), "drop(39)", s -> s.drop(39), 39);
        act(() -> filled(1), "drop(0), the last one", s -> s.drop(0), 0);
        sentence("`cut`: a cut");
        refused(SiteCuts::new, "drop(%)", (s, cut) -> s.drop(cut), UNKNOWN, -1, 0, 1, 40);
        refused(Boundary::rich, "drop(%)", (s, cut) -> s.drop(cut), UNKNOWN, -1, 3, 39, 40, LEAST, GREATEST);
        refused(() -> filled(40), "drop(%)", (s, cut) -> s.drop(cut), UNKNOWN, -1, 40);
        sentence("Returns how many are left; UNKNOWN.");
        SiteCuts x = filled(40);
        for (int left = 39; left >= 0; left--) {
            due("drop()", x.drop(left / 2), left);
            due("count(5)", x.count(5), left);
        }
        due("drop(0)", x.drop(0), UNKNOWN);
        due("master(2), the best plan stays", with(Boundary::rich, s -> s.drop(0)).master(2), 3);
    }

    private static void dropLoose() {
        part("Promise 13:");
        sentence("price cuts whose value for it is less than what it guesses above the prices of its sites "
            + "(which is 0 or more)");
        SiteCuts x = with(Boundary::twins, s -> s.solve());
        for (String text : new String[] {"8", "9", "10", "0"}) {
            read(x, text);
        }
        due("plan(1, 3), 9 above the price", x.plan(1, 3), 14);
        due("dropLoose(), one less and 0", x.dropLoose(), 2);
        due("cut(1, 2), the step's own", x.cut(1, 2), 9);
        due("cut(2, 2), as much", x.cut(2, 2), 9);
        due("cut(3, 2), another start of the same value", x.cut(3, 2), 10);
        SiteCuts y = bothForNothing();
        y.drop(0);
        read(y, "1,0,0");
        read(y, "0,0,0");
        due("value(2, 3), below 0", y.value(2, 3), 999999);
        due("value(3, 3), 0", y.value(3, 3), 1000000);
        due("dropLoose(), below 0", y.dropLoose(), 1);
        due("cut(2, 2), 0 is tight", y.cut(2, 2), 0);
        due("master(2), the best plan stays", y.master(2), 3);
        due("count(7), it is no step", y.count(7), 4);
        due("dropLoose(), again", y.dropLoose(), NONE);

        sentence("and rays of customers that more than one of its sites reach");
        SiteCuts z = bothForNothing();
        due("cut(0, 1)", z.cut(0, 1), 0);
        due("dropLoose(), two sites reach 0", z.dropLoose(), 1);
        due("count(6), one site reaches each of the others", z.count(6), 2);
        due("cut(0, 1)", z.cut(0, 1), 2);
        due("cut(1, 1)", z.cut(1, 1), 1);
        due("master(0)", z.master(0), 3);

        sentence("This is an act.");
        act(Boundary::bothForNothing, "dropLoose()", s -> s.dropLoose(), 1);
        act(() -> filled(with(Boundary::twins, s -> s.solve()), "0", 38), "dropLoose(), all room is taken",
            s -> s.dropLoose(), 38);

        sentence("Returns how many are dropped; NOT_POSSIBLE if there is no master plan; NONE if none is dropped.");
        refused(Boundary::hopeless, "dropLoose(), no master plan", s -> s.dropLoose(), NOT_POSSIBLE);
        refused(() -> with(Boundary::bothForNothing, s -> s.setMost(1)), "dropLoose(), not any more",
            s -> s.dropLoose(), NOT_POSSIBLE);
        refused(SiteCuts::new, "dropLoose() of nothing", s -> s.dropLoose(), NONE);
        refused(() -> bare(7, 0), "dropLoose() without customers", s -> s.dropLoose(), NONE);
        refused(Boundary::three, "dropLoose() without cuts", s -> s.dropLoose(), NONE);
        refused(Boundary::rich, "dropLoose(), all are tight", s -> s.dropLoose(), NONE);
        refused(() -> filled(40), "dropLoose(), 40 that are tight", s -> s.dropLoose(), NONE);
    }

    private static void type() {
        part("Promise 14:");
        sentence("Types a character behind the text.");
        noAct(Boundary::rich, "type(,)", s -> s.type(','), 4);
        due("readCut() of 3,2,", with(Boundary::rich, s -> s.type(',')).readCut(), -103);
        due("readCut() of 3,24", with(Boundary::rich, s -> s.type('4')).readCut(), 3);
        sentence("`character`: any character");
        for (int sign : new int[] {0, 1, 10, 32, 127, 128, 255, 256, 32767, 32768, 65535}) {
            due("type() of sign " + sign, rich().type((char) sign), 4);
        }
        sentence("Returns the length of the text then; FULL if it has 60 characters.");
        SiteCuts x = new SiteCuts();
        for (int length = 1; length <= 60; length++) {
            due("type()", x.type((char) (length * 1000)), length);
        }
        due("count(9)", x.count(9), 60);
        Start sixty = () -> write(rich(), "7".repeat(60));
        refused(sixty, "type() of sign %", (s, sign) -> s.type((char) sign), FULL, 0, ',', '7', 65535);
        due("type() behind clearText()", with(sixty, s -> s.clearText()).type('7'), 1);
    }

    private static void clearText() {
        part("Promise 15:");
        sentence("Empties the text.");
        noAct(Boundary::rich, "clearText()", s -> s.clearText(), 3);
        SiteCuts x = with(Boundary::rich, s -> s.clearText());
        due("count(9)", x.count(9), 0);
        due("readCut()", x.readCut(), -100);
        due("type(1)", x.type('1'), 1);
        due("readCut(), nothing is left of the old text", x.readCut(), -101);
        sentence("Returns the length that it had.");
        due("clearText() of none", new SiteCuts().clearText(), 0);
        due("clearText() of one", x.clearText(), 1);
        due("clearText(), again", x.clearText(), 0);
        due("clearText() of 60", write(x, "7".repeat(60)).clearText(), 60);
    }

    private static void undo() {
        part("Promise 16:");
        sentence("Returns the number of states that are left; NONE if the history is empty.");
        refused(SiteCuts::new, "undo() of a new object", s -> s.undo(), NONE);
        refused(() -> undone(Boundary::rich, 4), "undo(), the fifth", s -> s.undo(), NONE);
        SiteCuts x = rich();
        for (int left = 3; left >= 0; left--) {
            due("undo()", x.undo(), left);
            due("count(8)", x.count(8), left);
        }
        due("undo()", x.undo(), NONE);
        due("undo(), the only one", bare(1, 0).undo(), 0);
        due("count(0) behind it", undone(() -> bare(1, 0), 1).count(0), 0);
        SiteCuts y = undone(() -> bare(1, 0), 2);
        due("addSite(1) behind an empty history", y.addSite(1), 0);
        due("count(8)", y.count(8), 1);
        sentence("Removes and restores the latest state of the history.");
        Start back = Boundary::rich;
        same("undo() of solve()", () -> {
            SiteCuts s = rich();
            s.undo();
            return s;
        }, () -> {
            SiteCuts s = with(back, t -> t.solve());
            s.undo();
            s.undo();
            return s;
        }, false);
        due("count(5) behind undo() of solve()", undone(back, 1).count(5), 0);
        due("count(7) behind undo() of solve()", undone(back, 1).count(7), 0);
        due("master(2) behind undo() of solve()", undone(back, 1).master(2), NONE);
    }

    private static void keep() {
        part("Promise 17:");
        sentence("Takes a snapshot of the state, in place of the one that was.");
        noAct(Boundary::rich, "keep()", s -> s.keep(), 3);
        same("keep() and restore()", () -> {
            SiteCuts s = rich();
            s.keep();
            return s;
        }, () -> {
            SiteCuts s = rich();
            s.keep();
            s.addSite(3);
            s.step();
            s.restore();
            return s;
        }, true);
        SiteCuts x = rich();
        due("restore() of the one that was", x.restore(), 0);
        due("count(0)", x.count(0), 1);
        x.undo();
        x.keep();
        x.addSite(1);
        due("restore() of the one in its place", x.restore(), 3);
        due("count(0)", x.count(0), 3);
        sentence("Returns the number of cuts.");
        due("keep() of nothing", new SiteCuts().keep(), 0);
        due("keep() of 40", filled(40).keep(), 40);
        due("keep(), again", with(Boundary::rich, s -> s.keep()).keep(), 3);
    }

    private static void restore() {
        part("Promise 18:");
        sentence("Restores the state of the snapshot, which stays.");
        SiteCuts x = rich();
        for (int time = 0; time < 6; time++) {
            due("restore()", x.restore(), 0);
            due("count(0)", x.count(0), 1);
            due("plan(1, 1)", x.plan(1, 1), 77);
            x.setPrice(0, 3);
            x.addCustomer(1);
            x.step();
        }
        same("restore(), twice", () -> {
            SiteCuts s = rich();
            s.keep();
            return s;
        }, () -> {
            SiteCuts s = rich();
            s.keep();
            for (int time = 0; time < 2; time++) {
                s.setMost(1);
                s.setRoute(0, 0, 50);
                s.step();
                s.restore();
            }
            return s;
        }, true);
        sentence("This is an act.");
        act(Boundary::rich, "restore()", s -> s.restore(), 0);
        act(() -> with(Boundary::rich, s -> s.keep()), "restore() of the same state", s -> s.restore(), 3);
        act(() -> with(SiteCuts::new, s -> s.keep()), "restore() of nothing", s -> s.restore(), 0);
        sentence("Returns the number of cuts then; NONE if there is no snapshot.");
        refused(SiteCuts::new, "restore() of a new object", s -> s.restore(), NONE);
        refused(Boundary::three, "restore()", s -> s.restore(), NONE);
        Start forty = () -> {
            SiteCuts s = filled(40);
            s.keep();
            s.setPrice(0, 1);
            return s;
        };
        act(forty, "restore() of 40", s -> s.restore(), 40);
    }
}
